set_option maxHeartbeats 4000000 in
set_option maxRecDepth 100000 in
theorem tX1_clear (l : Launch) (dC : Nat → ClassId) (dI : Nat → Nat → Nat) (sz : Nat) (oC : Nat) (iC_nodes : Int32) (iC_words : Int32) (iC_chances : Int32) (iC_unsures : Int32) (iC_slips : Int32) (iC_throneNode : Int32) (iC_saidWorth : Int32) (iC_unit : Int32) (rC_kind : Nat) (rC_parts : Nat) (rC_partNodes : Nat) (rC_weights : Nat) (rC_weightSums : Nat) (rC_toldWorths : Nat) (rC_steps : Nat) (rC_below : Nat) (rC_above : Nat) (rC_unsureWords : Nat) (rC_unsureWorths : Nat) (b_iC_nodes : 0 ≤ iC_nodes.toInt ∧ iC_nodes.toInt ≤ 18) (b_iC_unsures : 0 ≤ iC_unsures.toInt ∧ iC_unsures.toInt ≤ 4) (b_iC_throneNode : (-1) ≤ iC_throneNode.toInt ∧ iC_throneNode.toInt ≤ 17)  : Met l yX1_clear (Cond.code yX1_clear cX1_clear 1 none :: wG) ({ frames := 0, cells := 0, slots := 0, locals := 0 }) (va_Pc [.ref oC] (Pw dC dI sz [(oC, .inr (1, [.int iC_nodes, .int iC_words, .int iC_chances, .int iC_unsures, .int iC_slips, .int iC_throneNode, .int iC_saidWorth, .int iC_unit, .ref rC_kind, .ref rC_parts, .ref rC_partNodes, .ref rC_weights, .ref rC_weightSums, .ref rC_toldWorths, .ref rC_steps, .ref rC_below, .ref rC_above, .ref rC_unsureWords, .ref rC_unsureWorths]))] [])) (va_Qv (fun (_ : Nat) => True) (fun (_ : Nat) (t : State) => ∃ (niC_nodes : Int32) (niC_words : Int32) (niC_chances : Int32) (niC_unsures : Int32) (niC_slips : Int32) (niC_throneNode : Int32) (niC_saidWorth : Int32) (niC_unit : Int32), (0 ≤ niC_nodes.toInt ∧ niC_nodes.toInt ≤ 0) ∧ (0 ≤ niC_words.toInt ∧ niC_words.toInt ≤ 0) ∧ (0 ≤ niC_chances.toInt ∧ niC_chances.toInt ≤ 0) ∧ (0 ≤ niC_unsures.toInt ∧ niC_unsures.toInt ≤ 0) ∧ (0 ≤ niC_slips.toInt ∧ niC_slips.toInt ≤ 0) ∧ ((-1) ≤ niC_throneNode.toInt ∧ niC_throneNode.toInt ≤ (-1)) ∧ ((-1) ≤ niC_saidWorth.toInt ∧ niC_saidWorth.toInt ≤ (-1)) ∧ (1 ≤ niC_unit.toInt ∧ niC_unit.toInt ≤ 1) ∧ Bw dC dI (va_A [(oC, .inr (1, [.int iC_nodes, .int iC_words, .int iC_chances, .int iC_unsures, .int iC_slips, .int iC_throneNode, .int iC_saidWorth, .int iC_unit, .ref rC_kind, .ref rC_parts, .ref rC_partNodes, .ref rC_weights, .ref rC_weightSums, .ref rC_toldWorths, .ref rC_steps, .ref rC_below, .ref rC_above, .ref rC_unsureWords, .ref rC_unsureWorths]))] sz) [(oC, .inr (1, [.int niC_nodes, .int niC_words, .int niC_chances, .int niC_unsures, .int niC_slips, .int niC_throneNode, .int niC_saidWorth, .int niC_unit, .ref rC_kind, .ref rC_parts, .ref rC_partNodes, .ref rC_weights, .ref rC_weightSums, .ref rC_toldWorths, .ref rC_steps, .ref rC_below, .ref rC_above, .ref rC_unsureWords, .ref rC_unsureWorths]))] [] t) (va_A [(oC, .inr (1, [.int iC_nodes, .int iC_words, .int iC_chances, .int iC_unsures, .int iC_slips, .int iC_throneNode, .int iC_saidWorth, .int iC_unit, .ref rC_kind, .ref rC_parts, .ref rC_partNodes, .ref rC_weights, .ref rC_weightSums, .ref rC_toldWorths, .ref rC_steps, .ref rC_below, .ref rC_above, .ref rC_unsureWords, .ref rC_unsureWorths]))] sz)) 0 0 (va_A [(oC, .inr (1, [.int iC_nodes, .int iC_words, .int iC_chances, .int iC_unsures, .int iC_slips, .int iC_throneNode, .int iC_saidWorth, .int iC_unit, .ref rC_kind, .ref rC_parts, .ref rC_partNodes, .ref rC_weights, .ref rC_weightSums, .ref rC_toldWorths, .ref rC_steps, .ref rC_below, .ref rC_above, .ref rC_unsureWords, .ref rC_unsureWorths]))] sz) := by
  refine Met.ofW (cc := cX1_clear) (maxL := 1) (ret := none) (by decide) rfl ?_
  intro p e s m args below meth c s₁ B hml hv
  obtain ⟨rfl, hsz, hP, hK, hD0, hE⟩ := hv
  have hx := B.exec
  have hb := B.bytes
  have hr := B.returns
  have hts : ∀ w ∈ wG, w.before ([.ref oC] : List Value).toArray s = true := fun w h => atoms_spec (ws := Cond.code yX1_clear cX1_clear 1 none :: wG) B.pre w (List.mem_cons_of_mem _ h)
  have hown : s.vm.findClass RX1 = some m.cls := findClass_of_methodNamed B.named
  have hlocks := B.notSynchronized
  subst hsz
  have hD := hD0.self (sz := s.heap.size)
  generalize hAe : va_A [(oC, .inr (1, [.int iC_nodes, .int iC_words, .int iC_chances, .int iC_unsures, .int iC_slips, .int iC_throneNode, .int iC_saidWorth, .int iC_unit, .ref rC_kind, .ref rC_parts, .ref rC_partNodes, .ref rC_weights, .ref rC_weightSums, .ref rC_toldWorths, .ref rC_steps, .ref rC_below, .ref rC_above, .ref rC_unsureWords, .ref rC_unsureWorths]))] s.heap.size = A at hD hE ⊢
  have hA : ∀ q : Nat, s.heap.size ≤ q → A q := fun q h => by rw [← hAe]; exact Or.inr h
  have hS : va_S A s.heap s.heap [] := va_S.rf
  have hl := lv_entry ([.ref oC]) (n := 1) (Nat.le_of_ble_eq_true rfl)
  rw [lg_entry_eq]
  generalize (lg_sl ([.ref oC]) ++ List.replicate (1 - (lg_sl ([.ref oC])).length) Slot.unset).toArray = ls at hl ⊢
  have hl : lv_has ls 1 [(0, .ref oC)] := hl
  refine lv_aload_n hx hb dX1_clear_0 rfl (lv_at hl 0 rfl) ?_
  refine lv_iconst (v := 0) hx hb dX1_clear_1 (by decide) ?_
  refine va_put (D := (dC, dI)) (ci := 1) (v := .int 0) (ty := .int) (C := RX1) (T := TX1) (N := 19) hx hb hts inX1 tyX1 tyX1_ok nmX1 hown hK hP hD hS 0 rfl rfl 0 (by decide) (hts _ wd_215) (fun _ h9 => h9) rfl (by decide +kernel) rfl rfl (Nat.le_of_ble_eq_true rfl) dX1_clear_2 (fun H locs hP hD hS => ?_)
  have hP : va_P (dC, dI) vwCl [(oC, .inr (1, [.int 0, .int iC_words, .int iC_chances, .int iC_unsures, .int iC_slips, .int iC_throneNode, .int iC_saidWorth, .int iC_unit, .ref rC_kind, .ref rC_parts, .ref rC_partNodes, .ref rC_weights, .ref rC_weightSums, .ref rC_toldWorths, .ref rC_steps, .ref rC_below, .ref rC_above, .ref rC_unsureWords, .ref rC_unsureWorths]))] H := hP
  have hD : va_D A [(oC, .inr (1, [.int 0, .int iC_words, .int iC_chances, .int iC_unsures, .int iC_slips, .int iC_throneNode, .int iC_saidWorth, .int iC_unit, .ref rC_kind, .ref rC_parts, .ref rC_partNodes, .ref rC_weights, .ref rC_weightSums, .ref rC_toldWorths, .ref rC_steps, .ref rC_below, .ref rC_above, .ref rC_unsureWords, .ref rC_unsureWorths]))] := hD
  refine lv_aload_n hx hb dX1_clear_5 rfl (lv_at hl 0 rfl) ?_
  refine lv_iconst (v := 0) hx hb dX1_clear_6 (by decide) ?_
  refine va_put (D := (dC, dI)) (ci := 1) (v := .int 0) (ty := .int) (C := RX1) (T := TX1) (N := 19) hx hb hts inX1 tyX1 tyX1_ok nmX1 hown hK hP hD hS 0 rfl rfl 1 (by decide) (hts _ wd_216) (fun _ h9 => h9) rfl (by decide +kernel) rfl rfl (Nat.le_of_ble_eq_true rfl) dX1_clear_7 (fun H locs hP hD hS => ?_)
  have hP : va_P (dC, dI) vwCl [(oC, .inr (1, [.int 0, .int 0, .int iC_chances, .int iC_unsures, .int iC_slips, .int iC_throneNode, .int iC_saidWorth, .int iC_unit, .ref rC_kind, .ref rC_parts, .ref rC_partNodes, .ref rC_weights, .ref rC_weightSums, .ref rC_toldWorths, .ref rC_steps, .ref rC_below, .ref rC_above, .ref rC_unsureWords, .ref rC_unsureWorths]))] H := hP
  have hD : va_D A [(oC, .inr (1, [.int 0, .int 0, .int iC_chances, .int iC_unsures, .int iC_slips, .int iC_throneNode, .int iC_saidWorth, .int iC_unit, .ref rC_kind, .ref rC_parts, .ref rC_partNodes, .ref rC_weights, .ref rC_weightSums, .ref rC_toldWorths, .ref rC_steps, .ref rC_below, .ref rC_above, .ref rC_unsureWords, .ref rC_unsureWorths]))] := hD
  refine lv_aload_n hx hb dX1_clear_10 rfl (lv_at hl 0 rfl) ?_
  refine lv_iconst (v := 0) hx hb dX1_clear_11 (by decide) ?_
  refine va_put (D := (dC, dI)) (ci := 1) (v := .int 0) (ty := .int) (C := RX1) (T := TX1) (N := 19) hx hb hts inX1 tyX1 tyX1_ok nmX1 hown hK hP hD hS 0 rfl rfl 2 (by decide) (hts _ wd_217) (fun _ h9 => h9) rfl (by decide +kernel) rfl rfl (Nat.le_of_ble_eq_true rfl) dX1_clear_12 (fun H locs hP hD hS => ?_)
  have hP : va_P (dC, dI) vwCl [(oC, .inr (1, [.int 0, .int 0, .int 0, .int iC_unsures, .int iC_slips, .int iC_throneNode, .int iC_saidWorth, .int iC_unit, .ref rC_kind, .ref rC_parts, .ref rC_partNodes, .ref rC_weights, .ref rC_weightSums, .ref rC_toldWorths, .ref rC_steps, .ref rC_below, .ref rC_above, .ref rC_unsureWords, .ref rC_unsureWorths]))] H := hP
  have hD : va_D A [(oC, .inr (1, [.int 0, .int 0, .int 0, .int iC_unsures, .int iC_slips, .int iC_throneNode, .int iC_saidWorth, .int iC_unit, .ref rC_kind, .ref rC_parts, .ref rC_partNodes, .ref rC_weights, .ref rC_weightSums, .ref rC_toldWorths, .ref rC_steps, .ref rC_below, .ref rC_above, .ref rC_unsureWords, .ref rC_unsureWorths]))] := hD
  refine lv_aload_n hx hb dX1_clear_15 rfl (lv_at hl 0 rfl) ?_
  refine lv_iconst (v := 0) hx hb dX1_clear_16 (by decide) ?_
  refine va_put (D := (dC, dI)) (ci := 1) (v := .int 0) (ty := .int) (C := RX1) (T := TX1) (N := 19) hx hb hts inX1 tyX1 tyX1_ok nmX1 hown hK hP hD hS 0 rfl rfl 3 (by decide) (hts _ wd_218) (fun _ h9 => h9) rfl (by decide +kernel) rfl rfl (Nat.le_of_ble_eq_true rfl) dX1_clear_17 (fun H locs hP hD hS => ?_)
  have hP : va_P (dC, dI) vwCl [(oC, .inr (1, [.int 0, .int 0, .int 0, .int 0, .int iC_slips, .int iC_throneNode, .int iC_saidWorth, .int iC_unit, .ref rC_kind, .ref rC_parts, .ref rC_partNodes, .ref rC_weights, .ref rC_weightSums, .ref rC_toldWorths, .ref rC_steps, .ref rC_below, .ref rC_above, .ref rC_unsureWords, .ref rC_unsureWorths]))] H := hP
  have hD : va_D A [(oC, .inr (1, [.int 0, .int 0, .int 0, .int 0, .int iC_slips, .int iC_throneNode, .int iC_saidWorth, .int iC_unit, .ref rC_kind, .ref rC_parts, .ref rC_partNodes, .ref rC_weights, .ref rC_weightSums, .ref rC_toldWorths, .ref rC_steps, .ref rC_below, .ref rC_above, .ref rC_unsureWords, .ref rC_unsureWorths]))] := hD
  refine lv_aload_n hx hb dX1_clear_20 rfl (lv_at hl 0 rfl) ?_
  refine lv_iconst (v := 0) hx hb dX1_clear_21 (by decide) ?_
  refine va_put (D := (dC, dI)) (ci := 1) (v := .int 0) (ty := .int) (C := RX1) (T := TX1) (N := 19) hx hb hts inX1 tyX1 tyX1_ok nmX1 hown hK hP hD hS 0 rfl rfl 4 (by decide) (hts _ wd_219) (fun _ h9 => h9) rfl (by decide +kernel) rfl rfl (Nat.le_of_ble_eq_true rfl) dX1_clear_22 (fun H locs hP hD hS => ?_)
  have hP : va_P (dC, dI) vwCl [(oC, .inr (1, [.int 0, .int 0, .int 0, .int 0, .int 0, .int iC_throneNode, .int iC_saidWorth, .int iC_unit, .ref rC_kind, .ref rC_parts, .ref rC_partNodes, .ref rC_weights, .ref rC_weightSums, .ref rC_toldWorths, .ref rC_steps, .ref rC_below, .ref rC_above, .ref rC_unsureWords, .ref rC_unsureWorths]))] H := hP
  have hD : va_D A [(oC, .inr (1, [.int 0, .int 0, .int 0, .int 0, .int 0, .int iC_throneNode, .int iC_saidWorth, .int iC_unit, .ref rC_kind, .ref rC_parts, .ref rC_partNodes, .ref rC_weights, .ref rC_weightSums, .ref rC_toldWorths, .ref rC_steps, .ref rC_below, .ref rC_above, .ref rC_unsureWords, .ref rC_unsureWorths]))] := hD
  refine lv_aload_n hx hb dX1_clear_25 rfl (lv_at hl 0 rfl) ?_
  refine lv_iconst (v := (-1)) hx hb dX1_clear_26 (by decide) ?_
  refine va_put (D := (dC, dI)) (ci := 1) (v := .int (-1)) (ty := .int) (C := RX1) (T := TX1) (N := 19) hx hb hts inX1 tyX1 tyX1_ok nmX1 hown hK hP hD hS 0 rfl rfl 5 (by decide) (hts _ wd_66) (fun _ h9 => h9) rfl (by decide +kernel) rfl rfl (Nat.le_of_ble_eq_true rfl) dX1_clear_27 (fun H locs hP hD hS => ?_)
  have hP : va_P (dC, dI) vwCl [(oC, .inr (1, [.int 0, .int 0, .int 0, .int 0, .int 0, .int (-1), .int iC_saidWorth, .int iC_unit, .ref rC_kind, .ref rC_parts, .ref rC_partNodes, .ref rC_weights, .ref rC_weightSums, .ref rC_toldWorths, .ref rC_steps, .ref rC_below, .ref rC_above, .ref rC_unsureWords, .ref rC_unsureWorths]))] H := hP
  have hD : va_D A [(oC, .inr (1, [.int 0, .int 0, .int 0, .int 0, .int 0, .int (-1), .int iC_saidWorth, .int iC_unit, .ref rC_kind, .ref rC_parts, .ref rC_partNodes, .ref rC_weights, .ref rC_weightSums, .ref rC_toldWorths, .ref rC_steps, .ref rC_below, .ref rC_above, .ref rC_unsureWords, .ref rC_unsureWorths]))] := hD
  refine lv_aload_n hx hb dX1_clear_30 rfl (lv_at hl 0 rfl) ?_
  refine lv_iconst (v := (-1)) hx hb dX1_clear_31 (by decide) ?_
  refine va_put (D := (dC, dI)) (ci := 1) (v := .int (-1)) (ty := .int) (C := RX1) (T := TX1) (N := 19) hx hb hts inX1 tyX1 tyX1_ok nmX1 hown hK hP hD hS 0 rfl rfl 6 (by decide) (hts _ wd_65) (fun _ h9 => h9) rfl (by decide +kernel) rfl rfl (Nat.le_of_ble_eq_true rfl) dX1_clear_32 (fun H locs hP hD hS => ?_)
  have hP : va_P (dC, dI) vwCl [(oC, .inr (1, [.int 0, .int 0, .int 0, .int 0, .int 0, .int (-1), .int (-1), .int iC_unit, .ref rC_kind, .ref rC_parts, .ref rC_partNodes, .ref rC_weights, .ref rC_weightSums, .ref rC_toldWorths, .ref rC_steps, .ref rC_below, .ref rC_above, .ref rC_unsureWords, .ref rC_unsureWorths]))] H := hP
  have hD : va_D A [(oC, .inr (1, [.int 0, .int 0, .int 0, .int 0, .int 0, .int (-1), .int (-1), .int iC_unit, .ref rC_kind, .ref rC_parts, .ref rC_partNodes, .ref rC_weights, .ref rC_weightSums, .ref rC_toldWorths, .ref rC_steps, .ref rC_below, .ref rC_above, .ref rC_unsureWords, .ref rC_unsureWorths]))] := hD
  refine lv_aload_n hx hb dX1_clear_35 rfl (lv_at hl 0 rfl) ?_
  refine lv_iconst (v := 1) hx hb dX1_clear_36 (by decide) ?_
  refine va_put (D := (dC, dI)) (ci := 1) (v := .int 1) (ty := .int) (C := RX1) (T := TX1) (N := 19) hx hb hts inX1 tyX1 tyX1_ok nmX1 hown hK hP hD hS 0 rfl rfl 7 (by decide) (hts _ wd_67) (fun _ h9 => h9) rfl (by decide +kernel) rfl rfl (Nat.le_of_ble_eq_true rfl) dX1_clear_37 (fun H locs hP hD hS => ?_)
  have hP : va_P (dC, dI) vwCl [(oC, .inr (1, [.int 0, .int 0, .int 0, .int 0, .int 0, .int (-1), .int (-1), .int 1, .ref rC_kind, .ref rC_parts, .ref rC_partNodes, .ref rC_weights, .ref rC_weightSums, .ref rC_toldWorths, .ref rC_steps, .ref rC_below, .ref rC_above, .ref rC_unsureWords, .ref rC_unsureWorths]))] H := hP
  have hD : va_D A [(oC, .inr (1, [.int 0, .int 0, .int 0, .int 0, .int 0, .int (-1), .int (-1), .int 1, .ref rC_kind, .ref rC_parts, .ref rC_partNodes, .ref rC_weights, .ref rC_weightSums, .ref rC_toldWorths, .ref rC_steps, .ref rC_below, .ref rC_above, .ref rC_unsureWords, .ref rC_unsureWorths]))] := hD
  have hP9 := hP.sub (ws' := [(oC, .inr (1, [.int 0, .int 0, .int 0, .int 0, .int 0, .int (-1), .int (-1), .int 1, .ref rC_kind, .ref rC_parts, .ref rC_partNodes, .ref rC_weights, .ref rC_weightSums, .ref rC_toldWorths, .ref rC_steps, .ref rC_below, .ref rC_above, .ref rC_unsureWords, .ref rC_unsureWorths]))]) [0] rfl
  have hD9 := hD.sub (ws' := [(oC, .inr (1, [.int 0, .int 0, .int 0, .int 0, .int 0, .int (-1), .int (-1), .int 1, .ref rC_kind, .ref rC_parts, .ref rC_partNodes, .ref rC_weights, .ref rC_weightSums, .ref rC_toldWorths, .ref rC_steps, .ref rC_below, .ref rC_above, .ref rC_unsureWords, .ref rC_unsureWorths]))]) [0] (by decide) rfl
  have hK9 := hK.sub (tys' := []) [] rfl
  exact W.vret hx hb hr (fun t ht hW => ⟨⟨0, rfl, trivial, ⟨0, 0, 0, 0, 0, (-1), (-1), 1, (by decide), (by decide), (by decide), (by decide), (by decide), (by decide), (by decide), (by decide), Bw.to hP9 hD9 hK9 ht hW⟩⟩, hS.F ht⟩) hS.2.2 dX1_clear_40
set_option maxHeartbeats 4000000 in
set_option maxRecDepth 100000 in
theorem tX1_hasNode (l : Launch) (dC : Nat → ClassId) (dI : Nat → Nat → Nat) (sz : Nat) (oC : Nat) (iC_nodes : Int32) (iC_words : Int32) (iC_chances : Int32) (iC_unsures : Int32) (iC_slips : Int32) (iC_throneNode : Int32) (iC_saidWorth : Int32) (iC_unit : Int32) (rC_kind : Nat) (rC_parts : Nat) (rC_partNodes : Nat) (rC_weights : Nat) (rC_weightSums : Nat) (rC_toldWorths : Nat) (rC_steps : Nat) (rC_below : Nat) (rC_above : Nat) (rC_unsureWords : Nat) (rC_unsureWorths : Nat) (p0 : Int32) (b_iC_nodes : 0 ≤ iC_nodes.toInt ∧ iC_nodes.toInt ≤ 18) (b_iC_unsures : 0 ≤ iC_unsures.toInt ∧ iC_unsures.toInt ≤ 4) (b_iC_throneNode : (-1) ≤ iC_throneNode.toInt ∧ iC_throneNode.toInt ≤ 17)  : Met l yX1_hasNode (Cond.code yX1_hasNode cX1_hasNode 2 (some .boolean) :: wG) ({ frames := 0, cells := 0, slots := 0, locals := 0 }) (va_Pc [.ref oC, .int p0] (Pw dC dI sz [(oC, .inr (1, [.int iC_nodes, .int iC_words, .int iC_chances, .int iC_unsures, .int iC_slips, .int iC_throneNode, .int iC_saidWorth, .int iC_unit, .ref rC_kind, .ref rC_parts, .ref rC_partNodes, .ref rC_weights, .ref rC_weightSums, .ref rC_toldWorths, .ref rC_steps, .ref rC_below, .ref rC_above, .ref rC_unsureWords, .ref rC_unsureWorths]))] [])) (va_Qi (fun (r : Int32) (_ : Nat) => (r = 0 ∨ r = 1) ∧ ((r = 1 ∧ 0 ≤ p0.toInt ∧ p0.toInt < iC_nodes.toInt) ∨ (r = 0 ∧ True))) (fun (_ : Nat) (t : State) => Bw dC dI (va_A [(oC, .inr (1, [.int iC_nodes, .int iC_words, .int iC_chances, .int iC_unsures, .int iC_slips, .int iC_throneNode, .int iC_saidWorth, .int iC_unit, .ref rC_kind, .ref rC_parts, .ref rC_partNodes, .ref rC_weights, .ref rC_weightSums, .ref rC_toldWorths, .ref rC_steps, .ref rC_below, .ref rC_above, .ref rC_unsureWords, .ref rC_unsureWorths]))] sz) [(oC, .inr (1, [.int iC_nodes, .int iC_words, .int iC_chances, .int iC_unsures, .int iC_slips, .int iC_throneNode, .int iC_saidWorth, .int iC_unit, .ref rC_kind, .ref rC_parts, .ref rC_partNodes, .ref rC_weights, .ref rC_weightSums, .ref rC_toldWorths, .ref rC_steps, .ref rC_below, .ref rC_above, .ref rC_unsureWords, .ref rC_unsureWorths]))] [] t) (va_A [(oC, .inr (1, [.int iC_nodes, .int iC_words, .int iC_chances, .int iC_unsures, .int iC_slips, .int iC_throneNode, .int iC_saidWorth, .int iC_unit, .ref rC_kind, .ref rC_parts, .ref rC_partNodes, .ref rC_weights, .ref rC_weightSums, .ref rC_toldWorths, .ref rC_steps, .ref rC_below, .ref rC_above, .ref rC_unsureWords, .ref rC_unsureWorths]))] sz)) 0 0 (va_A [(oC, .inr (1, [.int iC_nodes, .int iC_words, .int iC_chances, .int iC_unsures, .int iC_slips, .int iC_throneNode, .int iC_saidWorth, .int iC_unit, .ref rC_kind, .ref rC_parts, .ref rC_partNodes, .ref rC_weights, .ref rC_weightSums, .ref rC_toldWorths, .ref rC_steps, .ref rC_below, .ref rC_above, .ref rC_unsureWords, .ref rC_unsureWorths]))] sz) := by
  refine Met.ofW (cc := cX1_hasNode) (maxL := 2) (ret := (some .boolean)) (by decide) rfl ?_
  intro p e s m args below meth c s₁ B hml hv
  obtain ⟨rfl, hsz, hP, hK, hD0, hE⟩ := hv
  have hx := B.exec
  have hb := B.bytes
  have hr := B.returns
  have hts : ∀ w ∈ wG, w.before ([.ref oC, .int p0] : List Value).toArray s = true := fun w h => atoms_spec (ws := Cond.code yX1_hasNode cX1_hasNode 2 (some .boolean) :: wG) B.pre w (List.mem_cons_of_mem _ h)
  have hown : s.vm.findClass RX1 = some m.cls := findClass_of_methodNamed B.named
  have hlocks := B.notSynchronized
  subst hsz
  have hD := hD0.self (sz := s.heap.size)
  generalize hAe : va_A [(oC, .inr (1, [.int iC_nodes, .int iC_words, .int iC_chances, .int iC_unsures, .int iC_slips, .int iC_throneNode, .int iC_saidWorth, .int iC_unit, .ref rC_kind, .ref rC_parts, .ref rC_partNodes, .ref rC_weights, .ref rC_weightSums, .ref rC_toldWorths, .ref rC_steps, .ref rC_below, .ref rC_above, .ref rC_unsureWords, .ref rC_unsureWorths]))] s.heap.size = A at hD hE ⊢
  have hA : ∀ q : Nat, s.heap.size ≤ q → A q := fun q h => by rw [← hAe]; exact Or.inr h
  have hS : va_S A s.heap s.heap [] := va_S.rf
  have hl := lv_entry ([.ref oC, .int p0]) (n := 2) (Nat.le_of_ble_eq_true rfl)
  rw [lg_entry_eq]
  generalize (lg_sl ([.ref oC, .int p0]) ++ List.replicate (2 - (lg_sl ([.ref oC, .int p0])).length) Slot.unset).toArray = ls at hl ⊢
  have hl : lv_has ls 2 [(0, .ref oC), (1, .int p0)] := hl
  have rg_p0 := fb_rng p0
  refine lv_iload_n hx hb dX1_hasNode_0 rfl (lv_at hl 1 rfl) ?_
  refine lv_if_lt (tgt := 16) hx hb dX1_hasNode_1 (by decide) (fun c_98 => ?_) (fun c_98 => ?_)
  · skip
    have gc_98 := ti_lt c_98 rfl kc_0
    refine lv_iconst (v := 0) hx hb dX1_hasNode_16 (by decide) ?_
    have hP9 := hP.sub (ws' := [(oC, .inr (1, [.int iC_nodes, .int iC_words, .int iC_chances, .int iC_unsures, .int iC_slips, .int iC_throneNode, .int iC_saidWorth, .int iC_unit, .ref rC_kind, .ref rC_parts, .ref rC_partNodes, .ref rC_weights, .ref rC_weightSums, .ref rC_toldWorths, .ref rC_steps, .ref rC_below, .ref rC_above, .ref rC_unsureWords, .ref rC_unsureWorths]))]) [0] rfl
    have hD9 := hD.sub (ws' := [(oC, .inr (1, [.int iC_nodes, .int iC_words, .int iC_chances, .int iC_unsures, .int iC_slips, .int iC_throneNode, .int iC_saidWorth, .int iC_unit, .ref rC_kind, .ref rC_parts, .ref rC_partNodes, .ref rC_weights, .ref rC_weightSums, .ref rC_toldWorths, .ref rC_steps, .ref rC_below, .ref rC_above, .ref rC_unsureWords, .ref rC_unsureWorths]))]) [0] (by decide) rfl
    have hK9 := hK.sub (tys' := []) [] rfl
    exact W.zret (v := 0) hx hb hr rfl (fun t ht hW => ⟨⟨_, 0, rfl, ⟨Or.inl rfl, (Or.inr (⟨rfl, by first | trivial | omega⟩))⟩, Bw.to hP9 hD9 hK9 ht hW⟩, hS.F ht⟩) hS.2.2 dX1_hasNode_17
  · skip
    have gc_98 := ti_nlt c_98 rfl kc_0
    refine lv_iload_n hx hb dX1_hasNode_4 rfl (lv_at hl 1 rfl) ?_
    refine lv_aload_n hx hb dX1_hasNode_5 rfl (lv_at hl 0 rfl) ?_
    refine va_get (D := (dC, dI)) (ci := 1) (v := .int iC_nodes) (C := RX1) (T := TX1) (N := 19) hx hb hts inX1 hown hK hP 0 rfl rfl 0 (by decide) (hts _ wd_215) (fun _ h9 => h9) rfl dX1_hasNode_6 ?_
    have rg_iC_nodes := fb_rng iC_nodes
    refine lv_icmp_ge (tgt := 16) hx hb dX1_hasNode_9 (by decide) (fun c_99 => ?_) (fun c_99 => ?_)
    · skip
      have gc_99 := ti_le c_99 rfl rfl
      refine lv_iconst (v := 0) hx hb dX1_hasNode_16 (by decide) ?_
      have hP9 := hP.sub (ws' := [(oC, .inr (1, [.int iC_nodes, .int iC_words, .int iC_chances, .int iC_unsures, .int iC_slips, .int iC_throneNode, .int iC_saidWorth, .int iC_unit, .ref rC_kind, .ref rC_parts, .ref rC_partNodes, .ref rC_weights, .ref rC_weightSums, .ref rC_toldWorths, .ref rC_steps, .ref rC_below, .ref rC_above, .ref rC_unsureWords, .ref rC_unsureWorths]))]) [0] rfl
      have hD9 := hD.sub (ws' := [(oC, .inr (1, [.int iC_nodes, .int iC_words, .int iC_chances, .int iC_unsures, .int iC_slips, .int iC_throneNode, .int iC_saidWorth, .int iC_unit, .ref rC_kind, .ref rC_parts, .ref rC_partNodes, .ref rC_weights, .ref rC_weightSums, .ref rC_toldWorths, .ref rC_steps, .ref rC_below, .ref rC_above, .ref rC_unsureWords, .ref rC_unsureWorths]))]) [0] (by decide) rfl
      have hK9 := hK.sub (tys' := []) [] rfl
      exact W.zret (v := 0) hx hb hr rfl (fun t ht hW => ⟨⟨_, 0, rfl, ⟨Or.inl rfl, (Or.inr (⟨rfl, by first | trivial | omega⟩))⟩, Bw.to hP9 hD9 hK9 ht hW⟩, hS.F ht⟩) hS.2.2 dX1_hasNode_17
    · skip
      have gc_99 := ti_nle c_99 rfl rfl
      refine lv_iconst (v := 1) hx hb dX1_hasNode_12 (by decide) ?_
      refine lv_goto (tgt := 17) hx hb dX1_hasNode_13 (by decide) ?_
      have hP9 := hP.sub (ws' := [(oC, .inr (1, [.int iC_nodes, .int iC_words, .int iC_chances, .int iC_unsures, .int iC_slips, .int iC_throneNode, .int iC_saidWorth, .int iC_unit, .ref rC_kind, .ref rC_parts, .ref rC_partNodes, .ref rC_weights, .ref rC_weightSums, .ref rC_toldWorths, .ref rC_steps, .ref rC_below, .ref rC_above, .ref rC_unsureWords, .ref rC_unsureWorths]))]) [0] rfl
      have hD9 := hD.sub (ws' := [(oC, .inr (1, [.int iC_nodes, .int iC_words, .int iC_chances, .int iC_unsures, .int iC_slips, .int iC_throneNode, .int iC_saidWorth, .int iC_unit, .ref rC_kind, .ref rC_parts, .ref rC_partNodes, .ref rC_weights, .ref rC_weightSums, .ref rC_toldWorths, .ref rC_steps, .ref rC_below, .ref rC_above, .ref rC_unsureWords, .ref rC_unsureWorths]))]) [0] (by decide) rfl
      have hK9 := hK.sub (tys' := []) [] rfl
      exact W.zret (v := 1) hx hb hr rfl (fun t ht hW => ⟨⟨_, 0, rfl, ⟨Or.inr rfl, (Or.inl ⟨rfl, by first | trivial | omega⟩)⟩, Bw.to hP9 hD9 hK9 ht hW⟩, hS.F ht⟩) hS.2.2 dX1_hasNode_17
set_option maxHeartbeats 4000000 in
set_option maxRecDepth 100000 in
theorem tX1_hasWord (l : Launch) (dC : Nat → ClassId) (dI : Nat → Nat → Nat) (sz : Nat) (oC : Nat) (iC_nodes : Int32) (iC_words : Int32) (iC_chances : Int32) (iC_unsures : Int32) (iC_slips : Int32) (iC_throneNode : Int32) (iC_saidWorth : Int32) (iC_unit : Int32) (rC_kind : Nat) (fC_kind : Nat → Int32) (kC_kind : ClassId) (rC_parts : Nat) (rC_partNodes : Nat) (rC_weights : Nat) (rC_weightSums : Nat) (rC_toldWorths : Nat) (rC_steps : Nat) (rC_below : Nat) (rC_above : Nat) (rC_unsureWords : Nat) (rC_unsureWorths : Nat) (p0 : Int32) (b_iC_nodes : 0 ≤ iC_nodes.toInt ∧ iC_nodes.toInt ≤ 18) (b_iC_unsures : 0 ≤ iC_unsures.toInt ∧ iC_unsures.toInt ≤ 4) (b_iC_throneNode : (-1) ≤ iC_throneNode.toInt ∧ iC_throneNode.toInt ≤ 17)  : Met l yX1_hasWord (Cond.code yX1_hasWord cX1_hasWord 2 (some .boolean) :: wG) ({ frames := 1, cells := 0, slots := 0, locals := 21 }) (va_Pc [.ref oC, .int p0] (Pw dC dI sz [(oC, .inr (1, [.int iC_nodes, .int iC_words, .int iC_chances, .int iC_unsures, .int iC_slips, .int iC_throneNode, .int iC_saidWorth, .int iC_unit, .ref rC_kind, .ref rC_parts, .ref rC_partNodes, .ref rC_weights, .ref rC_weightSums, .ref rC_toldWorths, .ref rC_steps, .ref rC_below, .ref rC_above, .ref rC_unsureWords, .ref rC_unsureWorths])), (rC_kind, .inl (kC_kind, 18, .inl fC_kind))] [(kC_kind, .int)])) (va_Qi (fun (r : Int32) (_ : Nat) => (r = 0 ∨ r = 1) ∧ ((r = 1 ∧ 0 ≤ p0.toInt ∧ p0.toInt < iC_nodes.toInt) ∨ (r = 0 ∧ True))) (fun (_ : Nat) (t : State) => Bw dC dI (va_A [(oC, .inr (1, [.int iC_nodes, .int iC_words, .int iC_chances, .int iC_unsures, .int iC_slips, .int iC_throneNode, .int iC_saidWorth, .int iC_unit, .ref rC_kind, .ref rC_parts, .ref rC_partNodes, .ref rC_weights, .ref rC_weightSums, .ref rC_toldWorths, .ref rC_steps, .ref rC_below, .ref rC_above, .ref rC_unsureWords, .ref rC_unsureWorths])), (rC_kind, .inl (kC_kind, 18, .inl fC_kind))] sz) [(oC, .inr (1, [.int iC_nodes, .int iC_words, .int iC_chances, .int iC_unsures, .int iC_slips, .int iC_throneNode, .int iC_saidWorth, .int iC_unit, .ref rC_kind, .ref rC_parts, .ref rC_partNodes, .ref rC_weights, .ref rC_weightSums, .ref rC_toldWorths, .ref rC_steps, .ref rC_below, .ref rC_above, .ref rC_unsureWords, .ref rC_unsureWorths])), (rC_kind, .inl (kC_kind, 18, .inl fC_kind))] [(kC_kind, .int)] t) (va_A [(oC, .inr (1, [.int iC_nodes, .int iC_words, .int iC_chances, .int iC_unsures, .int iC_slips, .int iC_throneNode, .int iC_saidWorth, .int iC_unit, .ref rC_kind, .ref rC_parts, .ref rC_partNodes, .ref rC_weights, .ref rC_weightSums, .ref rC_toldWorths, .ref rC_steps, .ref rC_below, .ref rC_above, .ref rC_unsureWords, .ref rC_unsureWorths])), (rC_kind, .inl (kC_kind, 18, .inl fC_kind))] sz)) 0 0 (va_A [(oC, .inr (1, [.int iC_nodes, .int iC_words, .int iC_chances, .int iC_unsures, .int iC_slips, .int iC_throneNode, .int iC_saidWorth, .int iC_unit, .ref rC_kind, .ref rC_parts, .ref rC_partNodes, .ref rC_weights, .ref rC_weightSums, .ref rC_toldWorths, .ref rC_steps, .ref rC_below, .ref rC_above, .ref rC_unsureWords, .ref rC_unsureWorths])), (rC_kind, .inl (kC_kind, 18, .inl fC_kind))] sz) := by
  refine Met.ofW (cc := cX1_hasWord) (maxL := 2) (ret := (some .boolean)) (by decide) rfl ?_
  intro p e s m args below meth c s₁ B hml hv
  obtain ⟨rfl, hsz, hP, hK, hD0, hE⟩ := hv
  have hx := B.exec
  have hb := B.bytes
  have hr := B.returns
  have hts : ∀ w ∈ wG, w.before ([.ref oC, .int p0] : List Value).toArray s = true := fun w h => atoms_spec (ws := Cond.code yX1_hasWord cX1_hasWord 2 (some .boolean) :: wG) B.pre w (List.mem_cons_of_mem _ h)
  have hown : s.vm.findClass RX1 = some m.cls := findClass_of_methodNamed B.named
  have hlocks := B.notSynchronized
  subst hsz
  have hD := hD0.self (sz := s.heap.size)
  generalize hAe : va_A [(oC, .inr (1, [.int iC_nodes, .int iC_words, .int iC_chances, .int iC_unsures, .int iC_slips, .int iC_throneNode, .int iC_saidWorth, .int iC_unit, .ref rC_kind, .ref rC_parts, .ref rC_partNodes, .ref rC_weights, .ref rC_weightSums, .ref rC_toldWorths, .ref rC_steps, .ref rC_below, .ref rC_above, .ref rC_unsureWords, .ref rC_unsureWorths])), (rC_kind, .inl (kC_kind, 18, .inl fC_kind))] s.heap.size = A at hD hE ⊢
  have hA : ∀ q : Nat, s.heap.size ≤ q → A q := fun q h => by rw [← hAe]; exact Or.inr h
  have hS : va_S A s.heap s.heap [] := va_S.rf
  have hl := lv_entry ([.ref oC, .int p0]) (n := 2) (Nat.le_of_ble_eq_true rfl)
  rw [lg_entry_eq]
  generalize (lg_sl ([.ref oC, .int p0]) ++ List.replicate (2 - (lg_sl ([.ref oC, .int p0])).length) Slot.unset).toArray = ls at hl ⊢
  have hl : lv_has ls 2 [(0, .ref oC), (1, .int p0)] := hl
  have rg_p0 := fb_rng p0
  refine lv_aload_n hx hb dX1_hasWord_0 rfl (lv_at hl 0 rfl) ?_
  refine lv_iload_n hx hb dX1_hasWord_1 rfl (lv_at hl 1 rfl) ?_
  have hPc := hP.sub (ws' := [(oC, .inr (1, [.int iC_nodes, .int iC_words, .int iC_chances, .int iC_unsures, .int iC_slips, .int iC_throneNode, .int iC_saidWorth, .int iC_unit, .ref rC_kind, .ref rC_parts, .ref rC_partNodes, .ref rC_weights, .ref rC_weightSums, .ref rC_toldWorths, .ref rC_steps, .ref rC_below, .ref rC_above, .ref rC_unsureWords, .ref rC_unsureWorths]))]) [0] rfl
  have hDc := hD.sub (ws' := [(oC, .inr (1, [.int iC_nodes, .int iC_words, .int iC_chances, .int iC_unsures, .int iC_slips, .int iC_throneNode, .int iC_saidWorth, .int iC_unit, .ref rC_kind, .ref rC_parts, .ref rC_partNodes, .ref rC_weights, .ref rC_weightSums, .ref rC_toldWorths, .ref rC_steps, .ref rC_below, .ref rC_above, .ref rC_unsureWords, .ref rC_unsureWorths]))]) [0] (by decide) rfl
  have hKc := hK.sub (tys' := []) [] rfl
  have hFc := va_free (wc := [(oC, .inr (1, [.int iC_nodes, .int iC_words, .int iC_chances, .int iC_unsures, .int iC_slips, .int iC_throneNode, .int iC_saidWorth, .int iC_unit, .ref rC_kind, .ref rC_parts, .ref rC_partNodes, .ref rC_weights, .ref rC_weightSums, .ref rC_toldWorths, .ref rC_steps, .ref rC_below, .ref rC_above, .ref rC_unsureWords, .ref rC_unsureWorths]))]) hD hS hA [0] rfl
  refine va_calli (va_runV (As := [.int p0]) (rest := []) ⟨hx, hb, hml, hown, hts⟩ (tX1_hasNode l dC dI _ oC iC_nodes iC_words iC_chances iC_unsures iC_slips iC_throneNode iC_saidWorth iC_unit rC_kind rC_parts rC_partNodes rC_weights rC_weightSums rC_toldWorths rC_steps rC_below rC_above rC_unsureWords rC_unsureWorths p0 (by first | omega | decide) (by first | omega | decide) (by first | omega | decide)) (cwV 1 hts (wd_V wd_325 wd_326 wd_327 wd_19 (wd_c wd_328)) rfl rfl rfl (by decide +kernel) ⟨Nat.le_of_ble_eq_true rfl, Nat.le_of_ble_eq_true rfl⟩) ⟨Pw.fb, va_recv hKc hPc (ci := 1) (q0 := 0) rfl rfl, fun U hU hW => Pw.to hPc hDc hKc hE hS hFc hU hW⟩ rfl rfl hl.1 rfl (lv_room (Nat.le_of_ble_eq_true rfl)) dX1_hasWord_2 ⟨Nat.le_of_ble_eq_true rfl, Nat.le_of_ble_eq_true rfl⟩) hS (fun q _ h => hFc q h) hFc (fun r u t H locs ht hvm hw hB hz1 hk1 hS => ?_)
  obtain ⟨hP, hD, hK⟩ := Bw.back (wc := [(oC, .inr (1, [.int iC_nodes, .int iC_words, .int iC_chances, .int iC_unsures, .int iC_slips, .int iC_throneNode, .int iC_saidWorth, .int iC_unit, .ref rC_kind, .ref rC_parts, .ref rC_partNodes, .ref rC_weights, .ref rC_weightSums, .ref rC_toldWorths, .ref rC_steps, .ref rC_below, .ref rC_above, .ref rC_unsureWords, .ref rC_unsureWorths]))]) (wr := [(rC_kind, .inl (kC_kind, 18, .inl fC_kind))]) (tyr := [(kC_kind, .int)]) hB rfl ht hvm hP hD hK [0] [1] rfl rfl (by decide) (by decide) [0] rfl hk1 hFc
  have hP : va_P (dC, dI) vwCl [(rC_kind, .inl (kC_kind, 18, .inl fC_kind)), (oC, .inr (1, [.int iC_nodes, .int iC_words, .int iC_chances, .int iC_unsures, .int iC_slips, .int iC_throneNode, .int iC_saidWorth, .int iC_unit, .ref rC_kind, .ref rC_parts, .ref rC_partNodes, .ref rC_weights, .ref rC_weightSums, .ref rC_toldWorths, .ref rC_steps, .ref rC_below, .ref rC_above, .ref rC_unsureWords, .ref rC_unsureWorths]))] H := hP
  have hD : va_D A [(rC_kind, .inl (kC_kind, 18, .inl fC_kind)), (oC, .inr (1, [.int iC_nodes, .int iC_words, .int iC_chances, .int iC_unsures, .int iC_slips, .int iC_throneNode, .int iC_saidWorth, .int iC_unit, .ref rC_kind, .ref rC_parts, .ref rC_partNodes, .ref rC_weights, .ref rC_weightSums, .ref rC_toldWorths, .ref rC_steps, .ref rC_below, .ref rC_above, .ref rC_unsureWords, .ref rC_unsureWorths]))] := hD
  have hK : va_K (dC, dI) vwCl [(kC_kind, .int)] s := hK
  rcases hw.2 with ⟨rfl, hc_105⟩ | ⟨rfl, hc_105⟩
  · skip
    have rg_iC_nodes := fb_rng iC_nodes
    refine lv_if_eq (tgt := 21) hx hb dX1_hasWord_5 (by decide) (fun c => absurd c (by decide)) (fun _ => ?_)
    refine lv_aload_n hx hb dX1_hasWord_8 rfl (lv_at hl 0 rfl) ?_
    refine va_get (D := (dC, dI)) (ci := 1) (v := .ref rC_kind) (C := RX1) (T := TX1) (N := 19) hx hb hts inX1 hown hK hP 1 rfl rfl 8 (by decide) (hts _ wd_54) (fun _ h9 => h9) rfl dX1_hasWord_9 ?_
    refine lv_iload_n hx hb dX1_hasWord_12 rfl (lv_at hl 1 rfl) ?_
    refine va_iald hx hb hK hP 0 0 rfl rfl (ti_in rfl (by omega) (by omega)) dX1_hasWord_13 ?_
    refine lv_topi (fun x_107 ex_107 => ?_)
    have rg_x_107 := fb_rng x_107
    have kx_107 : (fC_kind p0.toNatClampNeg).toInt = x_107.toInt := by rw [ex_107]
    refine lv_if_ne (tgt := 21) hx hb dX1_hasWord_14 (by decide) (fun c_108 => ?_) (fun c_108 => ?_)
    · skip
      have gc_108 := ti_ne c_108 rfl kc_0
      refine lv_iconst (v := 0) hx hb dX1_hasWord_21 (by decide) ?_
      have hP9 := hP.sub (ws' := [(oC, .inr (1, [.int iC_nodes, .int iC_words, .int iC_chances, .int iC_unsures, .int iC_slips, .int iC_throneNode, .int iC_saidWorth, .int iC_unit, .ref rC_kind, .ref rC_parts, .ref rC_partNodes, .ref rC_weights, .ref rC_weightSums, .ref rC_toldWorths, .ref rC_steps, .ref rC_below, .ref rC_above, .ref rC_unsureWords, .ref rC_unsureWorths])), (rC_kind, .inl (kC_kind, 18, .inl fC_kind))]) [1, 0] rfl
      have hD9 := hD.sub (ws' := [(oC, .inr (1, [.int iC_nodes, .int iC_words, .int iC_chances, .int iC_unsures, .int iC_slips, .int iC_throneNode, .int iC_saidWorth, .int iC_unit, .ref rC_kind, .ref rC_parts, .ref rC_partNodes, .ref rC_weights, .ref rC_weightSums, .ref rC_toldWorths, .ref rC_steps, .ref rC_below, .ref rC_above, .ref rC_unsureWords, .ref rC_unsureWorths])), (rC_kind, .inl (kC_kind, 18, .inl fC_kind))]) [1, 0] (by decide) rfl
      have hK9 := hK.sub (tys' := [(kC_kind, .int)]) [0] rfl
      exact W.zret (v := 0) hx hb hr rfl (fun t ht hW => ⟨⟨_, 0, rfl, ⟨Or.inl rfl, (Or.inr (⟨rfl, by first | trivial | omega⟩))⟩, Bw.to hP9 hD9 hK9 ht hW⟩, hS.F ht⟩) hS.2.2 dX1_hasWord_22
    · skip
      have gc_108 := ti_eq c_108 rfl kc_0
      refine lv_iconst (v := 1) hx hb dX1_hasWord_17 (by decide) ?_
      refine lv_goto (tgt := 22) hx hb dX1_hasWord_18 (by decide) ?_
      have hP9 := hP.sub (ws' := [(oC, .inr (1, [.int iC_nodes, .int iC_words, .int iC_chances, .int iC_unsures, .int iC_slips, .int iC_throneNode, .int iC_saidWorth, .int iC_unit, .ref rC_kind, .ref rC_parts, .ref rC_partNodes, .ref rC_weights, .ref rC_weightSums, .ref rC_toldWorths, .ref rC_steps, .ref rC_below, .ref rC_above, .ref rC_unsureWords, .ref rC_unsureWorths])), (rC_kind, .inl (kC_kind, 18, .inl fC_kind))]) [1, 0] rfl
      have hD9 := hD.sub (ws' := [(oC, .inr (1, [.int iC_nodes, .int iC_words, .int iC_chances, .int iC_unsures, .int iC_slips, .int iC_throneNode, .int iC_saidWorth, .int iC_unit, .ref rC_kind, .ref rC_parts, .ref rC_partNodes, .ref rC_weights, .ref rC_weightSums, .ref rC_toldWorths, .ref rC_steps, .ref rC_below, .ref rC_above, .ref rC_unsureWords, .ref rC_unsureWorths])), (rC_kind, .inl (kC_kind, 18, .inl fC_kind))]) [1, 0] (by decide) rfl
      have hK9 := hK.sub (tys' := [(kC_kind, .int)]) [0] rfl
      exact W.zret (v := 1) hx hb hr rfl (fun t ht hW => ⟨⟨_, 0, rfl, ⟨Or.inr rfl, (Or.inl ⟨rfl, by first | trivial | omega⟩)⟩, Bw.to hP9 hD9 hK9 ht hW⟩, hS.F ht⟩) hS.2.2 dX1_hasWord_22
  · skip
    refine lv_if_eq (tgt := 21) hx hb dX1_hasWord_5 (by decide) (fun _ => ?_) (fun c => absurd c (by decide))
    refine lv_iconst (v := 0) hx hb dX1_hasWord_21 (by decide) ?_
    have hP9 := hP.sub (ws' := [(oC, .inr (1, [.int iC_nodes, .int iC_words, .int iC_chances, .int iC_unsures, .int iC_slips, .int iC_throneNode, .int iC_saidWorth, .int iC_unit, .ref rC_kind, .ref rC_parts, .ref rC_partNodes, .ref rC_weights, .ref rC_weightSums, .ref rC_toldWorths, .ref rC_steps, .ref rC_below, .ref rC_above, .ref rC_unsureWords, .ref rC_unsureWorths])), (rC_kind, .inl (kC_kind, 18, .inl fC_kind))]) [1, 0] rfl
    have hD9 := hD.sub (ws' := [(oC, .inr (1, [.int iC_nodes, .int iC_words, .int iC_chances, .int iC_unsures, .int iC_slips, .int iC_throneNode, .int iC_saidWorth, .int iC_unit, .ref rC_kind, .ref rC_parts, .ref rC_partNodes, .ref rC_weights, .ref rC_weightSums, .ref rC_toldWorths, .ref rC_steps, .ref rC_below, .ref rC_above, .ref rC_unsureWords, .ref rC_unsureWorths])), (rC_kind, .inl (kC_kind, 18, .inl fC_kind))]) [1, 0] (by decide) rfl
    have hK9 := hK.sub (tys' := [(kC_kind, .int)]) [0] rfl
    exact W.zret (v := 0) hx hb hr rfl (fun t ht hW => ⟨⟨_, 0, rfl, ⟨Or.inl rfl, (Or.inr (⟨rfl, by first | trivial | omega⟩))⟩, Bw.to hP9 hD9 hK9 ht hW⟩, hS.F ht⟩) hS.2.2 dX1_hasWord_22
set_option maxHeartbeats 4000000 in
set_option maxRecDepth 100000 in
theorem tX1_hasRoomFor (l : Launch) (dC : Nat → ClassId) (dI : Nat → Nat → Nat) (sz : Nat) (oC : Nat) (iC_nodes : Int32) (iC_words : Int32) (iC_chances : Int32) (iC_unsures : Int32) (iC_slips : Int32) (iC_throneNode : Int32) (iC_saidWorth : Int32) (iC_unit : Int32) (rC_kind : Nat) (rC_parts : Nat) (rC_partNodes : Nat) (rC_weights : Nat) (rC_weightSums : Nat) (rC_toldWorths : Nat) (rC_steps : Nat) (rC_below : Nat) (rC_above : Nat) (rC_unsureWords : Nat) (rC_unsureWorths : Nat) (p0 : Int32) (b_iC_nodes : 0 ≤ iC_nodes.toInt ∧ iC_nodes.toInt ≤ 18) (b_iC_unsures : 0 ≤ iC_unsures.toInt ∧ iC_unsures.toInt ≤ 4) (b_iC_throneNode : (-1) ≤ iC_throneNode.toInt ∧ iC_throneNode.toInt ≤ 17)  : Met l yX1_hasRoomFor (Cond.code yX1_hasRoomFor cX1_hasRoomFor 2 (some .boolean) :: wG) ({ frames := 0, cells := 0, slots := 0, locals := 0 }) (va_Pc [.ref oC, .int p0] (Pw dC dI sz [(oC, .inr (1, [.int iC_nodes, .int iC_words, .int iC_chances, .int iC_unsures, .int iC_slips, .int iC_throneNode, .int iC_saidWorth, .int iC_unit, .ref rC_kind, .ref rC_parts, .ref rC_partNodes, .ref rC_weights, .ref rC_weightSums, .ref rC_toldWorths, .ref rC_steps, .ref rC_below, .ref rC_above, .ref rC_unsureWords, .ref rC_unsureWorths]))] [])) (va_Qi (fun (r : Int32) (_ : Nat) => (r = 0 ∨ r = 1) ∧ ((r = 1 ∧ iC_nodes.toInt < 18) ∨ (r = 0 ∧ True))) (fun (_ : Nat) (t : State) => Bw dC dI (va_A [(oC, .inr (1, [.int iC_nodes, .int iC_words, .int iC_chances, .int iC_unsures, .int iC_slips, .int iC_throneNode, .int iC_saidWorth, .int iC_unit, .ref rC_kind, .ref rC_parts, .ref rC_partNodes, .ref rC_weights, .ref rC_weightSums, .ref rC_toldWorths, .ref rC_steps, .ref rC_below, .ref rC_above, .ref rC_unsureWords, .ref rC_unsureWorths]))] sz) [(oC, .inr (1, [.int iC_nodes, .int iC_words, .int iC_chances, .int iC_unsures, .int iC_slips, .int iC_throneNode, .int iC_saidWorth, .int iC_unit, .ref rC_kind, .ref rC_parts, .ref rC_partNodes, .ref rC_weights, .ref rC_weightSums, .ref rC_toldWorths, .ref rC_steps, .ref rC_below, .ref rC_above, .ref rC_unsureWords, .ref rC_unsureWorths]))] [] t) (va_A [(oC, .inr (1, [.int iC_nodes, .int iC_words, .int iC_chances, .int iC_unsures, .int iC_slips, .int iC_throneNode, .int iC_saidWorth, .int iC_unit, .ref rC_kind, .ref rC_parts, .ref rC_partNodes, .ref rC_weights, .ref rC_weightSums, .ref rC_toldWorths, .ref rC_steps, .ref rC_below, .ref rC_above, .ref rC_unsureWords, .ref rC_unsureWorths]))] sz)) 0 0 (va_A [(oC, .inr (1, [.int iC_nodes, .int iC_words, .int iC_chances, .int iC_unsures, .int iC_slips, .int iC_throneNode, .int iC_saidWorth, .int iC_unit, .ref rC_kind, .ref rC_parts, .ref rC_partNodes, .ref rC_weights, .ref rC_weightSums, .ref rC_toldWorths, .ref rC_steps, .ref rC_below, .ref rC_above, .ref rC_unsureWords, .ref rC_unsureWorths]))] sz) := by
  refine Met.ofW (cc := cX1_hasRoomFor) (maxL := 2) (ret := (some .boolean)) (by decide) rfl ?_
  intro p e s m args below meth c s₁ B hml hv
  obtain ⟨rfl, hsz, hP, hK, hD0, hE⟩ := hv
  have hx := B.exec
  have hb := B.bytes
  have hr := B.returns
  have hts : ∀ w ∈ wG, w.before ([.ref oC, .int p0] : List Value).toArray s = true := fun w h => atoms_spec (ws := Cond.code yX1_hasRoomFor cX1_hasRoomFor 2 (some .boolean) :: wG) B.pre w (List.mem_cons_of_mem _ h)
  have hown : s.vm.findClass RX1 = some m.cls := findClass_of_methodNamed B.named
  have hlocks := B.notSynchronized
  subst hsz
  have hD := hD0.self (sz := s.heap.size)
  generalize hAe : va_A [(oC, .inr (1, [.int iC_nodes, .int iC_words, .int iC_chances, .int iC_unsures, .int iC_slips, .int iC_throneNode, .int iC_saidWorth, .int iC_unit, .ref rC_kind, .ref rC_parts, .ref rC_partNodes, .ref rC_weights, .ref rC_weightSums, .ref rC_toldWorths, .ref rC_steps, .ref rC_below, .ref rC_above, .ref rC_unsureWords, .ref rC_unsureWorths]))] s.heap.size = A at hD hE ⊢
  have hA : ∀ q : Nat, s.heap.size ≤ q → A q := fun q h => by rw [← hAe]; exact Or.inr h
  have hS : va_S A s.heap s.heap [] := va_S.rf
  have hl := lv_entry ([.ref oC, .int p0]) (n := 2) (Nat.le_of_ble_eq_true rfl)
  rw [lg_entry_eq]
  generalize (lg_sl ([.ref oC, .int p0]) ++ List.replicate (2 - (lg_sl ([.ref oC, .int p0])).length) Slot.unset).toArray = ls at hl ⊢
  have hl : lv_has ls 2 [(0, .ref oC), (1, .int p0)] := hl
  have rg_p0 := fb_rng p0
  refine lv_aload_n hx hb dX1_hasRoomFor_0 rfl (lv_at hl 0 rfl) ?_
  refine va_get (D := (dC, dI)) (ci := 1) (v := .int iC_nodes) (C := RX1) (T := TX1) (N := 19) hx hb hts inX1 hown hK hP 0 rfl rfl 0 (by decide) (hts _ wd_215) (fun _ h9 => h9) rfl dX1_hasRoomFor_1 ?_
  have rg_iC_nodes := fb_rng iC_nodes
  refine lv_bipush (v := 18) hx hb dX1_hasRoomFor_4 (by decide) ?_
  refine lv_icmp_lt (tgt := 11) hx hb dX1_hasRoomFor_6 (by decide) (fun c_117 => ?_) (fun c_117 => ?_)
  · skip
    have gc_117 := ti_lt c_117 rfl kc_18
    refine lv_iload_n hx hb dX1_hasRoomFor_11 rfl (lv_at hl 1 rfl) ?_
    refine lv_if_ne (tgt := 30) hx hb dX1_hasRoomFor_12 (by decide) (fun c_118 => ?_) (fun c_118 => ?_)
    · skip
      have gc_118 := ti_ne c_118 rfl kc_0
      refine lv_aload_n hx hb dX1_hasRoomFor_30 rfl (lv_at hl 0 rfl) ?_
      refine va_get (D := (dC, dI)) (ci := 1) (v := .int iC_nodes) (C := RX1) (T := TX1) (N := 19) hx hb hts inX1 hown hK hP 0 rfl rfl 0 (by decide) (hts _ wd_215) (fun _ h9 => h9) rfl dX1_hasRoomFor_31 ?_
      refine lv_aload_n hx hb dX1_hasRoomFor_34 rfl (lv_at hl 0 rfl) ?_
      refine va_get (D := (dC, dI)) (ci := 1) (v := .int iC_words) (C := RX1) (T := TX1) (N := 19) hx hb hts inX1 hown hK hP 0 rfl rfl 1 (by decide) (hts _ wd_216) (fun _ h9 => h9) rfl dX1_hasRoomFor_35 ?_
      have rg_iC_words := fb_rng iC_words
      refine lv_isub hx hb dX1_hasRoomFor_38 ?_
      refine lv_topi (fun x_119 ex_119 => ?_)
      have rg_x_119 := fb_rng x_119
      refine lv_bipush (v := 8) hx hb dX1_hasRoomFor_39 (by decide) ?_
      refine lv_icmp_ge (tgt := 61) hx hb dX1_hasRoomFor_41 (by decide) (fun c_120 => ?_) (fun c_120 => ?_)
      · skip
        have gc_120 := ti_le c_120 kc_8 rfl
        refine lv_iconst (v := 0) hx hb dX1_hasRoomFor_61 (by decide) ?_
        have hP9 := hP.sub (ws' := [(oC, .inr (1, [.int iC_nodes, .int iC_words, .int iC_chances, .int iC_unsures, .int iC_slips, .int iC_throneNode, .int iC_saidWorth, .int iC_unit, .ref rC_kind, .ref rC_parts, .ref rC_partNodes, .ref rC_weights, .ref rC_weightSums, .ref rC_toldWorths, .ref rC_steps, .ref rC_below, .ref rC_above, .ref rC_unsureWords, .ref rC_unsureWorths]))]) [0] rfl
        have hD9 := hD.sub (ws' := [(oC, .inr (1, [.int iC_nodes, .int iC_words, .int iC_chances, .int iC_unsures, .int iC_slips, .int iC_throneNode, .int iC_saidWorth, .int iC_unit, .ref rC_kind, .ref rC_parts, .ref rC_partNodes, .ref rC_weights, .ref rC_weightSums, .ref rC_toldWorths, .ref rC_steps, .ref rC_below, .ref rC_above, .ref rC_unsureWords, .ref rC_unsureWorths]))]) [0] (by decide) rfl
        have hK9 := hK.sub (tys' := []) [] rfl
        exact W.zret (v := 0) hx hb hr rfl (fun t ht hW => ⟨⟨_, 0, rfl, ⟨Or.inl rfl, (Or.inr (⟨rfl, by first | trivial | omega⟩))⟩, Bw.to hP9 hD9 hK9 ht hW⟩, hS.F ht⟩) hS.2.2 dX1_hasRoomFor_62
      · skip
        have gc_120 := ti_nle c_120 kc_8 rfl
        refine lv_iload_n hx hb dX1_hasRoomFor_44 rfl (lv_at hl 1 rfl) ?_
        refine lv_iconst (v := 3) hx hb dX1_hasRoomFor_45 (by decide) ?_
        refine lv_icmp_ne (tgt := 57) hx hb dX1_hasRoomFor_46 (by decide) (fun c_121 => ?_) (fun c_121 => ?_)
        · skip
          have gc_121 := ti_ne c_121 rfl kc_3
          refine lv_iconst (v := 1) hx hb dX1_hasRoomFor_57 (by decide) ?_
          refine lv_goto (tgt := 62) hx hb dX1_hasRoomFor_58 (by decide) ?_
          have hP9 := hP.sub (ws' := [(oC, .inr (1, [.int iC_nodes, .int iC_words, .int iC_chances, .int iC_unsures, .int iC_slips, .int iC_throneNode, .int iC_saidWorth, .int iC_unit, .ref rC_kind, .ref rC_parts, .ref rC_partNodes, .ref rC_weights, .ref rC_weightSums, .ref rC_toldWorths, .ref rC_steps, .ref rC_below, .ref rC_above, .ref rC_unsureWords, .ref rC_unsureWorths]))]) [0] rfl
          have hD9 := hD.sub (ws' := [(oC, .inr (1, [.int iC_nodes, .int iC_words, .int iC_chances, .int iC_unsures, .int iC_slips, .int iC_throneNode, .int iC_saidWorth, .int iC_unit, .ref rC_kind, .ref rC_parts, .ref rC_partNodes, .ref rC_weights, .ref rC_weightSums, .ref rC_toldWorths, .ref rC_steps, .ref rC_below, .ref rC_above, .ref rC_unsureWords, .ref rC_unsureWorths]))]) [0] (by decide) rfl
          have hK9 := hK.sub (tys' := []) [] rfl
          exact W.zret (v := 1) hx hb hr rfl (fun t ht hW => ⟨⟨_, 0, rfl, ⟨Or.inr rfl, (Or.inl ⟨rfl, by first | trivial | omega⟩)⟩, Bw.to hP9 hD9 hK9 ht hW⟩, hS.F ht⟩) hS.2.2 dX1_hasRoomFor_62
        · skip
          have gc_121 := ti_eq c_121 rfl kc_3
          refine lv_aload_n hx hb dX1_hasRoomFor_49 rfl (lv_at hl 0 rfl) ?_
          refine va_get (D := (dC, dI)) (ci := 1) (v := .int iC_chances) (C := RX1) (T := TX1) (N := 19) hx hb hts inX1 hown hK hP 0 rfl rfl 2 (by decide) (hts _ wd_217) (fun _ h9 => h9) rfl dX1_hasRoomFor_50 ?_
          have rg_iC_chances := fb_rng iC_chances
          refine lv_iconst (v := 2) hx hb dX1_hasRoomFor_53 (by decide) ?_
          refine lv_icmp_ge (tgt := 61) hx hb dX1_hasRoomFor_54 (by decide) (fun c_122 => ?_) (fun c_122 => ?_)
          · skip
            have gc_122 := ti_le c_122 kc_2 rfl
            refine lv_iconst (v := 0) hx hb dX1_hasRoomFor_61 (by decide) ?_
            have hP9 := hP.sub (ws' := [(oC, .inr (1, [.int iC_nodes, .int iC_words, .int iC_chances, .int iC_unsures, .int iC_slips, .int iC_throneNode, .int iC_saidWorth, .int iC_unit, .ref rC_kind, .ref rC_parts, .ref rC_partNodes, .ref rC_weights, .ref rC_weightSums, .ref rC_toldWorths, .ref rC_steps, .ref rC_below, .ref rC_above, .ref rC_unsureWords, .ref rC_unsureWorths]))]) [0] rfl
            have hD9 := hD.sub (ws' := [(oC, .inr (1, [.int iC_nodes, .int iC_words, .int iC_chances, .int iC_unsures, .int iC_slips, .int iC_throneNode, .int iC_saidWorth, .int iC_unit, .ref rC_kind, .ref rC_parts, .ref rC_partNodes, .ref rC_weights, .ref rC_weightSums, .ref rC_toldWorths, .ref rC_steps, .ref rC_below, .ref rC_above, .ref rC_unsureWords, .ref rC_unsureWorths]))]) [0] (by decide) rfl
            have hK9 := hK.sub (tys' := []) [] rfl
            exact W.zret (v := 0) hx hb hr rfl (fun t ht hW => ⟨⟨_, 0, rfl, ⟨Or.inl rfl, (Or.inr (⟨rfl, by first | trivial | omega⟩))⟩, Bw.to hP9 hD9 hK9 ht hW⟩, hS.F ht⟩) hS.2.2 dX1_hasRoomFor_62
          · skip
            have gc_122 := ti_nle c_122 kc_2 rfl
            refine lv_iconst (v := 1) hx hb dX1_hasRoomFor_57 (by decide) ?_
            refine lv_goto (tgt := 62) hx hb dX1_hasRoomFor_58 (by decide) ?_
            have hP9 := hP.sub (ws' := [(oC, .inr (1, [.int iC_nodes, .int iC_words, .int iC_chances, .int iC_unsures, .int iC_slips, .int iC_throneNode, .int iC_saidWorth, .int iC_unit, .ref rC_kind, .ref rC_parts, .ref rC_partNodes, .ref rC_weights, .ref rC_weightSums, .ref rC_toldWorths, .ref rC_steps, .ref rC_below, .ref rC_above, .ref rC_unsureWords, .ref rC_unsureWorths]))]) [0] rfl
            have hD9 := hD.sub (ws' := [(oC, .inr (1, [.int iC_nodes, .int iC_words, .int iC_chances, .int iC_unsures, .int iC_slips, .int iC_throneNode, .int iC_saidWorth, .int iC_unit, .ref rC_kind, .ref rC_parts, .ref rC_partNodes, .ref rC_weights, .ref rC_weightSums, .ref rC_toldWorths, .ref rC_steps, .ref rC_below, .ref rC_above, .ref rC_unsureWords, .ref rC_unsureWorths]))]) [0] (by decide) rfl
            have hK9 := hK.sub (tys' := []) [] rfl
            exact W.zret (v := 1) hx hb hr rfl (fun t ht hW => ⟨⟨_, 0, rfl, ⟨Or.inr rfl, (Or.inl ⟨rfl, by first | trivial | omega⟩)⟩, Bw.to hP9 hD9 hK9 ht hW⟩, hS.F ht⟩) hS.2.2 dX1_hasRoomFor_62
    · skip
      have gc_118 := ti_eq c_118 rfl kc_0
      refine lv_aload_n hx hb dX1_hasRoomFor_15 rfl (lv_at hl 0 rfl) ?_
      refine va_get (D := (dC, dI)) (ci := 1) (v := .int iC_words) (C := RX1) (T := TX1) (N := 19) hx hb hts inX1 hown hK hP 0 rfl rfl 1 (by decide) (hts _ wd_216) (fun _ h9 => h9) rfl dX1_hasRoomFor_16 ?_
      have rg_iC_words := fb_rng iC_words
      refine lv_bipush (v := 10) hx hb dX1_hasRoomFor_19 (by decide) ?_
      refine lv_icmp_ge (tgt := 28) hx hb dX1_hasRoomFor_21 (by decide) (fun c_123 => ?_) (fun c_123 => ?_)
      · skip
        have gc_123 := ti_le c_123 kc_10 rfl
        refine lv_iconst (v := 0) hx hb dX1_hasRoomFor_28 (by decide) ?_
        have hP9 := hP.sub (ws' := [(oC, .inr (1, [.int iC_nodes, .int iC_words, .int iC_chances, .int iC_unsures, .int iC_slips, .int iC_throneNode, .int iC_saidWorth, .int iC_unit, .ref rC_kind, .ref rC_parts, .ref rC_partNodes, .ref rC_weights, .ref rC_weightSums, .ref rC_toldWorths, .ref rC_steps, .ref rC_below, .ref rC_above, .ref rC_unsureWords, .ref rC_unsureWorths]))]) [0] rfl
        have hD9 := hD.sub (ws' := [(oC, .inr (1, [.int iC_nodes, .int iC_words, .int iC_chances, .int iC_unsures, .int iC_slips, .int iC_throneNode, .int iC_saidWorth, .int iC_unit, .ref rC_kind, .ref rC_parts, .ref rC_partNodes, .ref rC_weights, .ref rC_weightSums, .ref rC_toldWorths, .ref rC_steps, .ref rC_below, .ref rC_above, .ref rC_unsureWords, .ref rC_unsureWorths]))]) [0] (by decide) rfl
        have hK9 := hK.sub (tys' := []) [] rfl
        exact W.zret (v := 0) hx hb hr rfl (fun t ht hW => ⟨⟨_, 0, rfl, ⟨Or.inl rfl, (Or.inr (⟨rfl, by first | trivial | omega⟩))⟩, Bw.to hP9 hD9 hK9 ht hW⟩, hS.F ht⟩) hS.2.2 dX1_hasRoomFor_29
      · skip
        have gc_123 := ti_nle c_123 kc_10 rfl
        refine lv_iconst (v := 1) hx hb dX1_hasRoomFor_24 (by decide) ?_
        refine lv_goto (tgt := 29) hx hb dX1_hasRoomFor_25 (by decide) ?_
        have hP9 := hP.sub (ws' := [(oC, .inr (1, [.int iC_nodes, .int iC_words, .int iC_chances, .int iC_unsures, .int iC_slips, .int iC_throneNode, .int iC_saidWorth, .int iC_unit, .ref rC_kind, .ref rC_parts, .ref rC_partNodes, .ref rC_weights, .ref rC_weightSums, .ref rC_toldWorths, .ref rC_steps, .ref rC_below, .ref rC_above, .ref rC_unsureWords, .ref rC_unsureWorths]))]) [0] rfl
        have hD9 := hD.sub (ws' := [(oC, .inr (1, [.int iC_nodes, .int iC_words, .int iC_chances, .int iC_unsures, .int iC_slips, .int iC_throneNode, .int iC_saidWorth, .int iC_unit, .ref rC_kind, .ref rC_parts, .ref rC_partNodes, .ref rC_weights, .ref rC_weightSums, .ref rC_toldWorths, .ref rC_steps, .ref rC_below, .ref rC_above, .ref rC_unsureWords, .ref rC_unsureWorths]))]) [0] (by decide) rfl
        have hK9 := hK.sub (tys' := []) [] rfl
        exact W.zret (v := 1) hx hb hr rfl (fun t ht hW => ⟨⟨_, 0, rfl, ⟨Or.inr rfl, (Or.inl ⟨rfl, by first | trivial | omega⟩)⟩, Bw.to hP9 hD9 hK9 ht hW⟩, hS.F ht⟩) hS.2.2 dX1_hasRoomFor_29
  · skip
    have gc_117 := ti_nlt c_117 rfl kc_18
    refine lv_iconst (v := 0) hx hb dX1_hasRoomFor_9 (by decide) ?_
    have hP9 := hP.sub (ws' := [(oC, .inr (1, [.int iC_nodes, .int iC_words, .int iC_chances, .int iC_unsures, .int iC_slips, .int iC_throneNode, .int iC_saidWorth, .int iC_unit, .ref rC_kind, .ref rC_parts, .ref rC_partNodes, .ref rC_weights, .ref rC_weightSums, .ref rC_toldWorths, .ref rC_steps, .ref rC_below, .ref rC_above, .ref rC_unsureWords, .ref rC_unsureWorths]))]) [0] rfl
    have hD9 := hD.sub (ws' := [(oC, .inr (1, [.int iC_nodes, .int iC_words, .int iC_chances, .int iC_unsures, .int iC_slips, .int iC_throneNode, .int iC_saidWorth, .int iC_unit, .ref rC_kind, .ref rC_parts, .ref rC_partNodes, .ref rC_weights, .ref rC_weightSums, .ref rC_toldWorths, .ref rC_steps, .ref rC_below, .ref rC_above, .ref rC_unsureWords, .ref rC_unsureWorths]))]) [0] (by decide) rfl
    have hK9 := hK.sub (tys' := []) [] rfl
    exact W.zret (v := 0) hx hb hr rfl (fun t ht hW => ⟨⟨_, 0, rfl, ⟨Or.inl rfl, (Or.inr (⟨rfl, by first | trivial | omega⟩))⟩, Bw.to hP9 hD9 hK9 ht hW⟩, hS.F ht⟩) hS.2.2 dX1_hasRoomFor_10
set_option maxHeartbeats 4000000 in
set_option maxRecDepth 100000 in
theorem tX1_hasRoomForPart (l : Launch) (dC : Nat → ClassId) (dI : Nat → Nat → Nat) (sz : Nat) (oC : Nat) (iC_nodes : Int32) (iC_words : Int32) (iC_chances : Int32) (iC_unsures : Int32) (iC_slips : Int32) (iC_throneNode : Int32) (iC_saidWorth : Int32) (iC_unit : Int32) (rC_kind : Nat) (rC_parts : Nat) (fC_parts : Nat → Int32) (kC_parts : ClassId) (rC_partNodes : Nat) (rC_weights : Nat) (rC_weightSums : Nat) (rC_toldWorths : Nat) (rC_steps : Nat) (rC_below : Nat) (rC_above : Nat) (rC_unsureWords : Nat) (rC_unsureWorths : Nat) (b_iC_nodes : 0 ≤ iC_nodes.toInt ∧ iC_nodes.toInt ≤ 18) (b_iC_unsures : 0 ≤ iC_unsures.toInt ∧ iC_unsures.toInt ≤ 4) (b_iC_throneNode : (-1) ≤ iC_throneNode.toInt ∧ iC_throneNode.toInt ≤ 17) (a_fC_parts : ∀ j : Nat, j < 18 → 0 ≤ (fC_parts j).toInt ∧ (fC_parts j).toInt ≤ 4)  : Met l yX1_hasRoomForPart (Cond.code yX1_hasRoomForPart cX1_hasRoomForPart 1 (some .boolean) :: wG) ({ frames := 0, cells := 0, slots := 0, locals := 0 }) (va_Pc [.ref oC] (Pw dC dI sz [(oC, .inr (1, [.int iC_nodes, .int iC_words, .int iC_chances, .int iC_unsures, .int iC_slips, .int iC_throneNode, .int iC_saidWorth, .int iC_unit, .ref rC_kind, .ref rC_parts, .ref rC_partNodes, .ref rC_weights, .ref rC_weightSums, .ref rC_toldWorths, .ref rC_steps, .ref rC_below, .ref rC_above, .ref rC_unsureWords, .ref rC_unsureWorths])), (rC_parts, .inl (kC_parts, 18, .inl fC_parts))] [(kC_parts, .int)])) (va_Qi (fun (r : Int32) (_ : Nat) => (r = 0 ∨ r = 1) ∧ ((r = 1 ∧ iC_nodes.toInt < 18 ∧ (fC_parts iC_nodes.toNatClampNeg).toInt < 4) ∨ (r = 0 ∧ True))) (fun (_ : Nat) (t : State) => Bw dC dI (va_A [(oC, .inr (1, [.int iC_nodes, .int iC_words, .int iC_chances, .int iC_unsures, .int iC_slips, .int iC_throneNode, .int iC_saidWorth, .int iC_unit, .ref rC_kind, .ref rC_parts, .ref rC_partNodes, .ref rC_weights, .ref rC_weightSums, .ref rC_toldWorths, .ref rC_steps, .ref rC_below, .ref rC_above, .ref rC_unsureWords, .ref rC_unsureWorths])), (rC_parts, .inl (kC_parts, 18, .inl fC_parts))] sz) [(oC, .inr (1, [.int iC_nodes, .int iC_words, .int iC_chances, .int iC_unsures, .int iC_slips, .int iC_throneNode, .int iC_saidWorth, .int iC_unit, .ref rC_kind, .ref rC_parts, .ref rC_partNodes, .ref rC_weights, .ref rC_weightSums, .ref rC_toldWorths, .ref rC_steps, .ref rC_below, .ref rC_above, .ref rC_unsureWords, .ref rC_unsureWorths])), (rC_parts, .inl (kC_parts, 18, .inl fC_parts))] [(kC_parts, .int)] t) (va_A [(oC, .inr (1, [.int iC_nodes, .int iC_words, .int iC_chances, .int iC_unsures, .int iC_slips, .int iC_throneNode, .int iC_saidWorth, .int iC_unit, .ref rC_kind, .ref rC_parts, .ref rC_partNodes, .ref rC_weights, .ref rC_weightSums, .ref rC_toldWorths, .ref rC_steps, .ref rC_below, .ref rC_above, .ref rC_unsureWords, .ref rC_unsureWorths])), (rC_parts, .inl (kC_parts, 18, .inl fC_parts))] sz)) 0 0 (va_A [(oC, .inr (1, [.int iC_nodes, .int iC_words, .int iC_chances, .int iC_unsures, .int iC_slips, .int iC_throneNode, .int iC_saidWorth, .int iC_unit, .ref rC_kind, .ref rC_parts, .ref rC_partNodes, .ref rC_weights, .ref rC_weightSums, .ref rC_toldWorths, .ref rC_steps, .ref rC_below, .ref rC_above, .ref rC_unsureWords, .ref rC_unsureWorths])), (rC_parts, .inl (kC_parts, 18, .inl fC_parts))] sz) := by
  refine Met.ofW (cc := cX1_hasRoomForPart) (maxL := 1) (ret := (some .boolean)) (by decide) rfl ?_
  intro p e s m args below meth c s₁ B hml hv
  obtain ⟨rfl, hsz, hP, hK, hD0, hE⟩ := hv
  have hx := B.exec
  have hb := B.bytes
  have hr := B.returns
  have hts : ∀ w ∈ wG, w.before ([.ref oC] : List Value).toArray s = true := fun w h => atoms_spec (ws := Cond.code yX1_hasRoomForPart cX1_hasRoomForPart 1 (some .boolean) :: wG) B.pre w (List.mem_cons_of_mem _ h)
  have hown : s.vm.findClass RX1 = some m.cls := findClass_of_methodNamed B.named
  have hlocks := B.notSynchronized
  subst hsz
  have hD := hD0.self (sz := s.heap.size)
  generalize hAe : va_A [(oC, .inr (1, [.int iC_nodes, .int iC_words, .int iC_chances, .int iC_unsures, .int iC_slips, .int iC_throneNode, .int iC_saidWorth, .int iC_unit, .ref rC_kind, .ref rC_parts, .ref rC_partNodes, .ref rC_weights, .ref rC_weightSums, .ref rC_toldWorths, .ref rC_steps, .ref rC_below, .ref rC_above, .ref rC_unsureWords, .ref rC_unsureWorths])), (rC_parts, .inl (kC_parts, 18, .inl fC_parts))] s.heap.size = A at hD hE ⊢
  have hA : ∀ q : Nat, s.heap.size ≤ q → A q := fun q h => by rw [← hAe]; exact Or.inr h
  have hS : va_S A s.heap s.heap [] := va_S.rf
  have hl := lv_entry ([.ref oC]) (n := 1) (Nat.le_of_ble_eq_true rfl)
  rw [lg_entry_eq]
  generalize (lg_sl ([.ref oC]) ++ List.replicate (1 - (lg_sl ([.ref oC])).length) Slot.unset).toArray = ls at hl ⊢
  have hl : lv_has ls 1 [(0, .ref oC)] := hl
  refine lv_aload_n hx hb dX1_hasRoomForPart_0 rfl (lv_at hl 0 rfl) ?_
  refine va_get (D := (dC, dI)) (ci := 1) (v := .int iC_nodes) (C := RX1) (T := TX1) (N := 19) hx hb hts inX1 hown hK hP 0 rfl rfl 0 (by decide) (hts _ wd_215) (fun _ h9 => h9) rfl dX1_hasRoomForPart_1 ?_
  have rg_iC_nodes := fb_rng iC_nodes
  refine lv_bipush (v := 18) hx hb dX1_hasRoomForPart_4 (by decide) ?_
  refine lv_icmp_ge (tgt := 26) hx hb dX1_hasRoomForPart_6 (by decide) (fun c_127 => ?_) (fun c_127 => ?_)
  · skip
    have gc_127 := ti_le c_127 kc_18 rfl
    refine lv_iconst (v := 0) hx hb dX1_hasRoomForPart_26 (by decide) ?_
    have hP9 := hP.sub (ws' := [(oC, .inr (1, [.int iC_nodes, .int iC_words, .int iC_chances, .int iC_unsures, .int iC_slips, .int iC_throneNode, .int iC_saidWorth, .int iC_unit, .ref rC_kind, .ref rC_parts, .ref rC_partNodes, .ref rC_weights, .ref rC_weightSums, .ref rC_toldWorths, .ref rC_steps, .ref rC_below, .ref rC_above, .ref rC_unsureWords, .ref rC_unsureWorths])), (rC_parts, .inl (kC_parts, 18, .inl fC_parts))]) [0, 1] rfl
    have hD9 := hD.sub (ws' := [(oC, .inr (1, [.int iC_nodes, .int iC_words, .int iC_chances, .int iC_unsures, .int iC_slips, .int iC_throneNode, .int iC_saidWorth, .int iC_unit, .ref rC_kind, .ref rC_parts, .ref rC_partNodes, .ref rC_weights, .ref rC_weightSums, .ref rC_toldWorths, .ref rC_steps, .ref rC_below, .ref rC_above, .ref rC_unsureWords, .ref rC_unsureWorths])), (rC_parts, .inl (kC_parts, 18, .inl fC_parts))]) [0, 1] (by decide) rfl
    have hK9 := hK.sub (tys' := [(kC_parts, .int)]) [0] rfl
    exact W.zret (v := 0) hx hb hr rfl (fun t ht hW => ⟨⟨_, 0, rfl, ⟨Or.inl rfl, (Or.inr (⟨rfl, by first | trivial | omega⟩))⟩, Bw.to hP9 hD9 hK9 ht hW⟩, hS.F ht⟩) hS.2.2 dX1_hasRoomForPart_27
  · skip
    have gc_127 := ti_nle c_127 kc_18 rfl
    refine lv_aload_n hx hb dX1_hasRoomForPart_9 rfl (lv_at hl 0 rfl) ?_
    refine va_get (D := (dC, dI)) (ci := 1) (v := .ref rC_parts) (C := RX1) (T := TX1) (N := 19) hx hb hts inX1 hown hK hP 0 rfl rfl 9 (by decide) (hts _ wd_55) (fun _ h9 => h9) rfl dX1_hasRoomForPart_10 ?_
    refine lv_aload_n hx hb dX1_hasRoomForPart_13 rfl (lv_at hl 0 rfl) ?_
    refine va_get (D := (dC, dI)) (ci := 1) (v := .int iC_nodes) (C := RX1) (T := TX1) (N := 19) hx hb hts inX1 hown hK hP 0 rfl rfl 0 (by decide) (hts _ wd_215) (fun _ h9 => h9) rfl dX1_hasRoomForPart_14 ?_
    refine va_iald hx hb hK hP 1 0 rfl rfl (ti_in rfl (by omega) (by omega)) dX1_hasRoomForPart_17 ?_
    refine lv_topi (fun x_128 ex_128 => ?_)
    have rg_x_128 := fb_rng x_128
    have kx_128 : (fC_parts iC_nodes.toNatClampNeg).toInt = x_128.toInt := by rw [ex_128]
    have ux_128 := a_fC_parts _ (by have q := ti_cl (x := iC_nodes) rfl (by omega); omega : iC_nodes.toNatClampNeg < 18)
    rw [show fC_parts iC_nodes.toNatClampNeg = x_128 from ex_128.symm] at ux_128
    refine lv_iconst (v := 4) hx hb dX1_hasRoomForPart_18 (by decide) ?_
    refine lv_icmp_ge (tgt := 26) hx hb dX1_hasRoomForPart_19 (by decide) (fun c_129 => ?_) (fun c_129 => ?_)
    · skip
      have gc_129 := ti_le c_129 kc_4 rfl
      refine lv_iconst (v := 0) hx hb dX1_hasRoomForPart_26 (by decide) ?_
      have hP9 := hP.sub (ws' := [(oC, .inr (1, [.int iC_nodes, .int iC_words, .int iC_chances, .int iC_unsures, .int iC_slips, .int iC_throneNode, .int iC_saidWorth, .int iC_unit, .ref rC_kind, .ref rC_parts, .ref rC_partNodes, .ref rC_weights, .ref rC_weightSums, .ref rC_toldWorths, .ref rC_steps, .ref rC_below, .ref rC_above, .ref rC_unsureWords, .ref rC_unsureWorths])), (rC_parts, .inl (kC_parts, 18, .inl fC_parts))]) [0, 1] rfl
      have hD9 := hD.sub (ws' := [(oC, .inr (1, [.int iC_nodes, .int iC_words, .int iC_chances, .int iC_unsures, .int iC_slips, .int iC_throneNode, .int iC_saidWorth, .int iC_unit, .ref rC_kind, .ref rC_parts, .ref rC_partNodes, .ref rC_weights, .ref rC_weightSums, .ref rC_toldWorths, .ref rC_steps, .ref rC_below, .ref rC_above, .ref rC_unsureWords, .ref rC_unsureWorths])), (rC_parts, .inl (kC_parts, 18, .inl fC_parts))]) [0, 1] (by decide) rfl
      have hK9 := hK.sub (tys' := [(kC_parts, .int)]) [0] rfl
      exact W.zret (v := 0) hx hb hr rfl (fun t ht hW => ⟨⟨_, 0, rfl, ⟨Or.inl rfl, (Or.inr (⟨rfl, by first | trivial | omega⟩))⟩, Bw.to hP9 hD9 hK9 ht hW⟩, hS.F ht⟩) hS.2.2 dX1_hasRoomForPart_27
    · skip
      have gc_129 := ti_nle c_129 kc_4 rfl
      refine lv_iconst (v := 1) hx hb dX1_hasRoomForPart_22 (by decide) ?_
      refine lv_goto (tgt := 27) hx hb dX1_hasRoomForPart_23 (by decide) ?_
      have hP9 := hP.sub (ws' := [(oC, .inr (1, [.int iC_nodes, .int iC_words, .int iC_chances, .int iC_unsures, .int iC_slips, .int iC_throneNode, .int iC_saidWorth, .int iC_unit, .ref rC_kind, .ref rC_parts, .ref rC_partNodes, .ref rC_weights, .ref rC_weightSums, .ref rC_toldWorths, .ref rC_steps, .ref rC_below, .ref rC_above, .ref rC_unsureWords, .ref rC_unsureWorths])), (rC_parts, .inl (kC_parts, 18, .inl fC_parts))]) [0, 1] rfl
      have hD9 := hD.sub (ws' := [(oC, .inr (1, [.int iC_nodes, .int iC_words, .int iC_chances, .int iC_unsures, .int iC_slips, .int iC_throneNode, .int iC_saidWorth, .int iC_unit, .ref rC_kind, .ref rC_parts, .ref rC_partNodes, .ref rC_weights, .ref rC_weightSums, .ref rC_toldWorths, .ref rC_steps, .ref rC_below, .ref rC_above, .ref rC_unsureWords, .ref rC_unsureWorths])), (rC_parts, .inl (kC_parts, 18, .inl fC_parts))]) [0, 1] (by decide) rfl
      have hK9 := hK.sub (tys' := [(kC_parts, .int)]) [0] rfl
      exact W.zret (v := 1) hx hb hr rfl (fun t ht hW => ⟨⟨_, 0, rfl, ⟨Or.inr rfl, (Or.inl ⟨rfl, by first | trivial | omega⟩)⟩, Bw.to hP9 hD9 hK9 ht hW⟩, hS.F ht⟩) hS.2.2 dX1_hasRoomForPart_27
set_option maxHeartbeats 4000000 in
set_option maxRecDepth 100000 in
theorem tX1_beginNode (l : Launch) (dC : Nat → ClassId) (dI : Nat → Nat → Nat) (sz : Nat) (oC : Nat) (iC_nodes : Int32) (iC_words : Int32) (iC_chances : Int32) (iC_unsures : Int32) (iC_slips : Int32) (iC_throneNode : Int32) (iC_saidWorth : Int32) (iC_unit : Int32) (rC_kind : Nat) (fC_kind : Nat → Int32) (kC_kind : ClassId) (rC_parts : Nat) (fC_parts : Nat → Int32) (kC_parts : ClassId) (rC_partNodes : Nat) (rC_weights : Nat) (rC_weightSums : Nat) (fC_weightSums : Nat → Int32) (kC_weightSums : ClassId) (rC_toldWorths : Nat) (fC_toldWorths : Nat → Int32) (kC_toldWorths : ClassId) (rC_steps : Nat) (fC_steps : Nat → Int32) (kC_steps : ClassId) (rC_below : Nat) (fC_below : Nat → Int32) (kC_below : ClassId) (rC_above : Nat) (fC_above : Nat → Int32) (kC_above : ClassId) (rC_unsureWords : Nat) (rC_unsureWorths : Nat) (p0 : Int32) (b_iC_nodes : 0 ≤ iC_nodes.toInt ∧ iC_nodes.toInt ≤ 18) (b_iC_unsures : 0 ≤ iC_unsures.toInt ∧ iC_unsures.toInt ≤ 4) (b_iC_throneNode : (-1) ≤ iC_throneNode.toInt ∧ iC_throneNode.toInt ≤ 17) (a_fC_parts : ∀ j : Nat, j < 18 → 0 ≤ (fC_parts j).toInt ∧ (fC_parts j).toInt ≤ 4)  : Met l yX1_beginNode (Cond.code yX1_beginNode cX1_beginNode 2 none :: wG) ({ frames := 0, cells := 0, slots := 0, locals := 0 }) (va_Pc [.ref oC, .int p0] (Pw dC dI sz [(oC, .inr (1, [.int iC_nodes, .int iC_words, .int iC_chances, .int iC_unsures, .int iC_slips, .int iC_throneNode, .int iC_saidWorth, .int iC_unit, .ref rC_kind, .ref rC_parts, .ref rC_partNodes, .ref rC_weights, .ref rC_weightSums, .ref rC_toldWorths, .ref rC_steps, .ref rC_below, .ref rC_above, .ref rC_unsureWords, .ref rC_unsureWorths])), (rC_kind, .inl (kC_kind, 18, .inl fC_kind)), (rC_parts, .inl (kC_parts, 18, .inl fC_parts)), (rC_weightSums, .inl (kC_weightSums, 18, .inl fC_weightSums)), (rC_toldWorths, .inl (kC_toldWorths, 18, .inl fC_toldWorths)), (rC_steps, .inl (kC_steps, 18, .inl fC_steps)), (rC_below, .inl (kC_below, 18, .inl fC_below)), (rC_above, .inl (kC_above, 18, .inl fC_above))] [(kC_kind, .int), (kC_parts, .int), (kC_weightSums, .int), (kC_toldWorths, .int), (kC_steps, .int), (kC_below, .int), (kC_above, .int)])) (va_Qv (fun (_ : Nat) => True) (fun (_ : Nat) (t : State) => ∃ (nfC_kind : Nat → Int32) (nfC_parts : Nat → Int32) (nfC_weightSums : Nat → Int32) (nfC_toldWorths : Nat → Int32) (nfC_steps : Nat → Int32) (nfC_below : Nat → Int32) (nfC_above : Nat → Int32), (∀ j : Nat, j < 18 → 0 ≤ (nfC_parts j).toInt ∧ (nfC_parts j).toInt ≤ 4) ∧ Bw dC dI (va_A [(oC, .inr (1, [.int iC_nodes, .int iC_words, .int iC_chances, .int iC_unsures, .int iC_slips, .int iC_throneNode, .int iC_saidWorth, .int iC_unit, .ref rC_kind, .ref rC_parts, .ref rC_partNodes, .ref rC_weights, .ref rC_weightSums, .ref rC_toldWorths, .ref rC_steps, .ref rC_below, .ref rC_above, .ref rC_unsureWords, .ref rC_unsureWorths])), (rC_kind, .inl (kC_kind, 18, .inl fC_kind)), (rC_parts, .inl (kC_parts, 18, .inl fC_parts)), (rC_weightSums, .inl (kC_weightSums, 18, .inl fC_weightSums)), (rC_toldWorths, .inl (kC_toldWorths, 18, .inl fC_toldWorths)), (rC_steps, .inl (kC_steps, 18, .inl fC_steps)), (rC_below, .inl (kC_below, 18, .inl fC_below)), (rC_above, .inl (kC_above, 18, .inl fC_above))] sz) [(oC, .inr (1, [.int iC_nodes, .int iC_words, .int iC_chances, .int iC_unsures, .int iC_slips, .int iC_throneNode, .int iC_saidWorth, .int iC_unit, .ref rC_kind, .ref rC_parts, .ref rC_partNodes, .ref rC_weights, .ref rC_weightSums, .ref rC_toldWorths, .ref rC_steps, .ref rC_below, .ref rC_above, .ref rC_unsureWords, .ref rC_unsureWorths])), (rC_kind, .inl (kC_kind, 18, .inl nfC_kind)), (rC_parts, .inl (kC_parts, 18, .inl nfC_parts)), (rC_weightSums, .inl (kC_weightSums, 18, .inl nfC_weightSums)), (rC_toldWorths, .inl (kC_toldWorths, 18, .inl nfC_toldWorths)), (rC_steps, .inl (kC_steps, 18, .inl nfC_steps)), (rC_below, .inl (kC_below, 18, .inl nfC_below)), (rC_above, .inl (kC_above, 18, .inl nfC_above))] [(kC_kind, .int), (kC_parts, .int), (kC_weightSums, .int), (kC_toldWorths, .int), (kC_steps, .int), (kC_below, .int), (kC_above, .int)] t) (va_A [(oC, .inr (1, [.int iC_nodes, .int iC_words, .int iC_chances, .int iC_unsures, .int iC_slips, .int iC_throneNode, .int iC_saidWorth, .int iC_unit, .ref rC_kind, .ref rC_parts, .ref rC_partNodes, .ref rC_weights, .ref rC_weightSums, .ref rC_toldWorths, .ref rC_steps, .ref rC_below, .ref rC_above, .ref rC_unsureWords, .ref rC_unsureWorths])), (rC_kind, .inl (kC_kind, 18, .inl fC_kind)), (rC_parts, .inl (kC_parts, 18, .inl fC_parts)), (rC_weightSums, .inl (kC_weightSums, 18, .inl fC_weightSums)), (rC_toldWorths, .inl (kC_toldWorths, 18, .inl fC_toldWorths)), (rC_steps, .inl (kC_steps, 18, .inl fC_steps)), (rC_below, .inl (kC_below, 18, .inl fC_below)), (rC_above, .inl (kC_above, 18, .inl fC_above))] sz)) 0 0 (va_A [(oC, .inr (1, [.int iC_nodes, .int iC_words, .int iC_chances, .int iC_unsures, .int iC_slips, .int iC_throneNode, .int iC_saidWorth, .int iC_unit, .ref rC_kind, .ref rC_parts, .ref rC_partNodes, .ref rC_weights, .ref rC_weightSums, .ref rC_toldWorths, .ref rC_steps, .ref rC_below, .ref rC_above, .ref rC_unsureWords, .ref rC_unsureWorths])), (rC_kind, .inl (kC_kind, 18, .inl fC_kind)), (rC_parts, .inl (kC_parts, 18, .inl fC_parts)), (rC_weightSums, .inl (kC_weightSums, 18, .inl fC_weightSums)), (rC_toldWorths, .inl (kC_toldWorths, 18, .inl fC_toldWorths)), (rC_steps, .inl (kC_steps, 18, .inl fC_steps)), (rC_below, .inl (kC_below, 18, .inl fC_below)), (rC_above, .inl (kC_above, 18, .inl fC_above))] sz) := by
  refine Met.ofW (cc := cX1_beginNode) (maxL := 2) (ret := none) (by decide) rfl ?_
  intro p e s m args below meth c s₁ B hml hv
  obtain ⟨rfl, hsz, hP, hK, hD0, hE⟩ := hv
  have hx := B.exec
  have hb := B.bytes
  have hr := B.returns
  have hts : ∀ w ∈ wG, w.before ([.ref oC, .int p0] : List Value).toArray s = true := fun w h => atoms_spec (ws := Cond.code yX1_beginNode cX1_beginNode 2 none :: wG) B.pre w (List.mem_cons_of_mem _ h)
  have hown : s.vm.findClass RX1 = some m.cls := findClass_of_methodNamed B.named
  have hlocks := B.notSynchronized
  subst hsz
  have hD := hD0.self (sz := s.heap.size)
  generalize hAe : va_A [(oC, .inr (1, [.int iC_nodes, .int iC_words, .int iC_chances, .int iC_unsures, .int iC_slips, .int iC_throneNode, .int iC_saidWorth, .int iC_unit, .ref rC_kind, .ref rC_parts, .ref rC_partNodes, .ref rC_weights, .ref rC_weightSums, .ref rC_toldWorths, .ref rC_steps, .ref rC_below, .ref rC_above, .ref rC_unsureWords, .ref rC_unsureWorths])), (rC_kind, .inl (kC_kind, 18, .inl fC_kind)), (rC_parts, .inl (kC_parts, 18, .inl fC_parts)), (rC_weightSums, .inl (kC_weightSums, 18, .inl fC_weightSums)), (rC_toldWorths, .inl (kC_toldWorths, 18, .inl fC_toldWorths)), (rC_steps, .inl (kC_steps, 18, .inl fC_steps)), (rC_below, .inl (kC_below, 18, .inl fC_below)), (rC_above, .inl (kC_above, 18, .inl fC_above))] s.heap.size = A at hD hE ⊢
  have hA : ∀ q : Nat, s.heap.size ≤ q → A q := fun q h => by rw [← hAe]; exact Or.inr h
  have hS : va_S A s.heap s.heap [] := va_S.rf
  have hl := lv_entry ([.ref oC, .int p0]) (n := 2) (Nat.le_of_ble_eq_true rfl)
  rw [lg_entry_eq]
  generalize (lg_sl ([.ref oC, .int p0]) ++ List.replicate (2 - (lg_sl ([.ref oC, .int p0])).length) Slot.unset).toArray = ls at hl ⊢
  have hl : lv_has ls 2 [(0, .ref oC), (1, .int p0)] := hl
  have rg_p0 := fb_rng p0
  refine lv_aload_n hx hb dX1_beginNode_0 rfl (lv_at hl 0 rfl) ?_
  refine va_get (D := (dC, dI)) (ci := 1) (v := .int iC_nodes) (C := RX1) (T := TX1) (N := 19) hx hb hts inX1 hown hK hP 0 rfl rfl 0 (by decide) (hts _ wd_215) (fun _ h9 => h9) rfl dX1_beginNode_1 ?_
  have rg_iC_nodes := fb_rng iC_nodes
  refine lv_bipush (v := 18) hx hb dX1_beginNode_4 (by decide) ?_
  refine lv_icmp_ge (tgt := 92) hx hb dX1_beginNode_6 (by decide) (fun c_142 => ?_) (fun c_142 => ?_)
  · skip
    have gc_142 := ti_le c_142 kc_18 rfl
    have hP9 := hP.sub (ws' := [(oC, .inr (1, [.int iC_nodes, .int iC_words, .int iC_chances, .int iC_unsures, .int iC_slips, .int iC_throneNode, .int iC_saidWorth, .int iC_unit, .ref rC_kind, .ref rC_parts, .ref rC_partNodes, .ref rC_weights, .ref rC_weightSums, .ref rC_toldWorths, .ref rC_steps, .ref rC_below, .ref rC_above, .ref rC_unsureWords, .ref rC_unsureWorths])), (rC_kind, .inl (kC_kind, 18, .inl fC_kind)), (rC_parts, .inl (kC_parts, 18, .inl fC_parts)), (rC_weightSums, .inl (kC_weightSums, 18, .inl fC_weightSums)), (rC_toldWorths, .inl (kC_toldWorths, 18, .inl fC_toldWorths)), (rC_steps, .inl (kC_steps, 18, .inl fC_steps)), (rC_below, .inl (kC_below, 18, .inl fC_below)), (rC_above, .inl (kC_above, 18, .inl fC_above))]) [0, 1, 2, 3, 4, 5, 6, 7] rfl
    have hD9 := hD.sub (ws' := [(oC, .inr (1, [.int iC_nodes, .int iC_words, .int iC_chances, .int iC_unsures, .int iC_slips, .int iC_throneNode, .int iC_saidWorth, .int iC_unit, .ref rC_kind, .ref rC_parts, .ref rC_partNodes, .ref rC_weights, .ref rC_weightSums, .ref rC_toldWorths, .ref rC_steps, .ref rC_below, .ref rC_above, .ref rC_unsureWords, .ref rC_unsureWorths])), (rC_kind, .inl (kC_kind, 18, .inl fC_kind)), (rC_parts, .inl (kC_parts, 18, .inl fC_parts)), (rC_weightSums, .inl (kC_weightSums, 18, .inl fC_weightSums)), (rC_toldWorths, .inl (kC_toldWorths, 18, .inl fC_toldWorths)), (rC_steps, .inl (kC_steps, 18, .inl fC_steps)), (rC_below, .inl (kC_below, 18, .inl fC_below)), (rC_above, .inl (kC_above, 18, .inl fC_above))]) [0, 1, 2, 3, 4, 5, 6, 7] (by decide) rfl
    have hK9 := hK.sub (tys' := [(kC_kind, .int), (kC_parts, .int), (kC_weightSums, .int), (kC_toldWorths, .int), (kC_steps, .int), (kC_below, .int), (kC_above, .int)]) [0, 1, 2, 3, 4, 5, 6] rfl
    exact W.vret hx hb hr (fun t ht hW => ⟨⟨0, rfl, trivial, ⟨fC_kind, fC_parts, fC_weightSums, fC_toldWorths, fC_steps, fC_below, fC_above, a_fC_parts, Bw.to hP9 hD9 hK9 ht hW⟩⟩, hS.F ht⟩) hS.2.2 dX1_beginNode_92
  · skip
    have gc_142 := ti_nle c_142 kc_18 rfl
    refine lv_aload_n hx hb dX1_beginNode_9 rfl (lv_at hl 0 rfl) ?_
    refine va_get (D := (dC, dI)) (ci := 1) (v := .ref rC_kind) (C := RX1) (T := TX1) (N := 19) hx hb hts inX1 hown hK hP 0 rfl rfl 8 (by decide) (hts _ wd_54) (fun _ h9 => h9) rfl dX1_beginNode_10 ?_
    refine lv_aload_n hx hb dX1_beginNode_13 rfl (lv_at hl 0 rfl) ?_
    refine va_get (D := (dC, dI)) (ci := 1) (v := .int iC_nodes) (C := RX1) (T := TX1) (N := 19) hx hb hts inX1 hown hK hP 0 rfl rfl 0 (by decide) (hts _ wd_215) (fun _ h9 => h9) rfl dX1_beginNode_14 ?_
    refine lv_iload_n hx hb dX1_beginNode_17 rfl (lv_at hl 1 rfl) ?_
    refine vz_iast hx hb hK hP hD hS 1 0 rfl rfl (ti_in rfl (by omega) (by omega)) dX1_beginNode_18 (fun H locs f_143 hP hD hS => ?_)
    have hP : va_P (dC, dI) vwCl [(oC, .inr (1, [.int iC_nodes, .int iC_words, .int iC_chances, .int iC_unsures, .int iC_slips, .int iC_throneNode, .int iC_saidWorth, .int iC_unit, .ref rC_kind, .ref rC_parts, .ref rC_partNodes, .ref rC_weights, .ref rC_weightSums, .ref rC_toldWorths, .ref rC_steps, .ref rC_below, .ref rC_above, .ref rC_unsureWords, .ref rC_unsureWorths])), (rC_kind, .inl (kC_kind, 18, .inl f_143)), (rC_parts, .inl (kC_parts, 18, .inl fC_parts)), (rC_weightSums, .inl (kC_weightSums, 18, .inl fC_weightSums)), (rC_toldWorths, .inl (kC_toldWorths, 18, .inl fC_toldWorths)), (rC_steps, .inl (kC_steps, 18, .inl fC_steps)), (rC_below, .inl (kC_below, 18, .inl fC_below)), (rC_above, .inl (kC_above, 18, .inl fC_above))] H := hP
    have hD : va_D A [(oC, .inr (1, [.int iC_nodes, .int iC_words, .int iC_chances, .int iC_unsures, .int iC_slips, .int iC_throneNode, .int iC_saidWorth, .int iC_unit, .ref rC_kind, .ref rC_parts, .ref rC_partNodes, .ref rC_weights, .ref rC_weightSums, .ref rC_toldWorths, .ref rC_steps, .ref rC_below, .ref rC_above, .ref rC_unsureWords, .ref rC_unsureWorths])), (rC_kind, .inl (kC_kind, 18, .inl f_143)), (rC_parts, .inl (kC_parts, 18, .inl fC_parts)), (rC_weightSums, .inl (kC_weightSums, 18, .inl fC_weightSums)), (rC_toldWorths, .inl (kC_toldWorths, 18, .inl fC_toldWorths)), (rC_steps, .inl (kC_steps, 18, .inl fC_steps)), (rC_below, .inl (kC_below, 18, .inl fC_below)), (rC_above, .inl (kC_above, 18, .inl fC_above))] := hD
    refine lv_aload_n hx hb dX1_beginNode_19 rfl (lv_at hl 0 rfl) ?_
    refine va_get (D := (dC, dI)) (ci := 1) (v := .ref rC_parts) (C := RX1) (T := TX1) (N := 19) hx hb hts inX1 hown hK hP 0 rfl rfl 9 (by decide) (hts _ wd_55) (fun _ h9 => h9) rfl dX1_beginNode_20 ?_
    refine lv_aload_n hx hb dX1_beginNode_23 rfl (lv_at hl 0 rfl) ?_
    refine va_get (D := (dC, dI)) (ci := 1) (v := .int iC_nodes) (C := RX1) (T := TX1) (N := 19) hx hb hts inX1 hown hK hP 0 rfl rfl 0 (by decide) (hts _ wd_215) (fun _ h9 => h9) rfl dX1_beginNode_24 ?_
    refine lv_iconst (v := 0) hx hb dX1_beginNode_27 (by decide) ?_
    refine vi_iast (lo := 0) (hi := 4) hx hb hK hP hD hS 2 1 rfl rfl (ti_in rfl (by omega) (by omega)) a_fC_parts (by decide) dX1_beginNode_28 (fun H locs f_144 a_f_144 hP hD hS => ?_)
    have hP : va_P (dC, dI) vwCl [(oC, .inr (1, [.int iC_nodes, .int iC_words, .int iC_chances, .int iC_unsures, .int iC_slips, .int iC_throneNode, .int iC_saidWorth, .int iC_unit, .ref rC_kind, .ref rC_parts, .ref rC_partNodes, .ref rC_weights, .ref rC_weightSums, .ref rC_toldWorths, .ref rC_steps, .ref rC_below, .ref rC_above, .ref rC_unsureWords, .ref rC_unsureWorths])), (rC_kind, .inl (kC_kind, 18, .inl f_143)), (rC_parts, .inl (kC_parts, 18, .inl f_144)), (rC_weightSums, .inl (kC_weightSums, 18, .inl fC_weightSums)), (rC_toldWorths, .inl (kC_toldWorths, 18, .inl fC_toldWorths)), (rC_steps, .inl (kC_steps, 18, .inl fC_steps)), (rC_below, .inl (kC_below, 18, .inl fC_below)), (rC_above, .inl (kC_above, 18, .inl fC_above))] H := hP
    have hD : va_D A [(oC, .inr (1, [.int iC_nodes, .int iC_words, .int iC_chances, .int iC_unsures, .int iC_slips, .int iC_throneNode, .int iC_saidWorth, .int iC_unit, .ref rC_kind, .ref rC_parts, .ref rC_partNodes, .ref rC_weights, .ref rC_weightSums, .ref rC_toldWorths, .ref rC_steps, .ref rC_below, .ref rC_above, .ref rC_unsureWords, .ref rC_unsureWorths])), (rC_kind, .inl (kC_kind, 18, .inl f_143)), (rC_parts, .inl (kC_parts, 18, .inl f_144)), (rC_weightSums, .inl (kC_weightSums, 18, .inl fC_weightSums)), (rC_toldWorths, .inl (kC_toldWorths, 18, .inl fC_toldWorths)), (rC_steps, .inl (kC_steps, 18, .inl fC_steps)), (rC_below, .inl (kC_below, 18, .inl fC_below)), (rC_above, .inl (kC_above, 18, .inl fC_above))] := hD
    refine lv_aload_n hx hb dX1_beginNode_29 rfl (lv_at hl 0 rfl) ?_
    refine va_get (D := (dC, dI)) (ci := 1) (v := .ref rC_weightSums) (C := RX1) (T := TX1) (N := 19) hx hb hts inX1 hown hK hP 0 rfl rfl 12 (by decide) (hts _ wd_58) (fun _ h9 => h9) rfl dX1_beginNode_30 ?_
    refine lv_aload_n hx hb dX1_beginNode_33 rfl (lv_at hl 0 rfl) ?_
    refine va_get (D := (dC, dI)) (ci := 1) (v := .int iC_nodes) (C := RX1) (T := TX1) (N := 19) hx hb hts inX1 hown hK hP 0 rfl rfl 0 (by decide) (hts _ wd_215) (fun _ h9 => h9) rfl dX1_beginNode_34 ?_
    refine lv_iconst (v := 0) hx hb dX1_beginNode_37 (by decide) ?_
    refine vz_iast hx hb hK hP hD hS 3 2 rfl rfl (ti_in rfl (by omega) (by omega)) dX1_beginNode_38 (fun H locs f_145 hP hD hS => ?_)
    have hP : va_P (dC, dI) vwCl [(oC, .inr (1, [.int iC_nodes, .int iC_words, .int iC_chances, .int iC_unsures, .int iC_slips, .int iC_throneNode, .int iC_saidWorth, .int iC_unit, .ref rC_kind, .ref rC_parts, .ref rC_partNodes, .ref rC_weights, .ref rC_weightSums, .ref rC_toldWorths, .ref rC_steps, .ref rC_below, .ref rC_above, .ref rC_unsureWords, .ref rC_unsureWorths])), (rC_kind, .inl (kC_kind, 18, .inl f_143)), (rC_parts, .inl (kC_parts, 18, .inl f_144)), (rC_weightSums, .inl (kC_weightSums, 18, .inl f_145)), (rC_toldWorths, .inl (kC_toldWorths, 18, .inl fC_toldWorths)), (rC_steps, .inl (kC_steps, 18, .inl fC_steps)), (rC_below, .inl (kC_below, 18, .inl fC_below)), (rC_above, .inl (kC_above, 18, .inl fC_above))] H := hP
    have hD : va_D A [(oC, .inr (1, [.int iC_nodes, .int iC_words, .int iC_chances, .int iC_unsures, .int iC_slips, .int iC_throneNode, .int iC_saidWorth, .int iC_unit, .ref rC_kind, .ref rC_parts, .ref rC_partNodes, .ref rC_weights, .ref rC_weightSums, .ref rC_toldWorths, .ref rC_steps, .ref rC_below, .ref rC_above, .ref rC_unsureWords, .ref rC_unsureWorths])), (rC_kind, .inl (kC_kind, 18, .inl f_143)), (rC_parts, .inl (kC_parts, 18, .inl f_144)), (rC_weightSums, .inl (kC_weightSums, 18, .inl f_145)), (rC_toldWorths, .inl (kC_toldWorths, 18, .inl fC_toldWorths)), (rC_steps, .inl (kC_steps, 18, .inl fC_steps)), (rC_below, .inl (kC_below, 18, .inl fC_below)), (rC_above, .inl (kC_above, 18, .inl fC_above))] := hD
    refine lv_aload_n hx hb dX1_beginNode_39 rfl (lv_at hl 0 rfl) ?_
    refine va_get (D := (dC, dI)) (ci := 1) (v := .ref rC_toldWorths) (C := RX1) (T := TX1) (N := 19) hx hb hts inX1 hown hK hP 0 rfl rfl 13 (by decide) (hts _ wd_59) (fun _ h9 => h9) rfl dX1_beginNode_40 ?_
    refine lv_aload_n hx hb dX1_beginNode_43 rfl (lv_at hl 0 rfl) ?_
    refine va_get (D := (dC, dI)) (ci := 1) (v := .int iC_nodes) (C := RX1) (T := TX1) (N := 19) hx hb hts inX1 hown hK hP 0 rfl rfl 0 (by decide) (hts _ wd_215) (fun _ h9 => h9) rfl dX1_beginNode_44 ?_
    refine lv_iconst (v := 0) hx hb dX1_beginNode_47 (by decide) ?_
    refine vz_iast hx hb hK hP hD hS 4 3 rfl rfl (ti_in rfl (by omega) (by omega)) dX1_beginNode_48 (fun H locs f_146 hP hD hS => ?_)
    have hP : va_P (dC, dI) vwCl [(oC, .inr (1, [.int iC_nodes, .int iC_words, .int iC_chances, .int iC_unsures, .int iC_slips, .int iC_throneNode, .int iC_saidWorth, .int iC_unit, .ref rC_kind, .ref rC_parts, .ref rC_partNodes, .ref rC_weights, .ref rC_weightSums, .ref rC_toldWorths, .ref rC_steps, .ref rC_below, .ref rC_above, .ref rC_unsureWords, .ref rC_unsureWorths])), (rC_kind, .inl (kC_kind, 18, .inl f_143)), (rC_parts, .inl (kC_parts, 18, .inl f_144)), (rC_weightSums, .inl (kC_weightSums, 18, .inl f_145)), (rC_toldWorths, .inl (kC_toldWorths, 18, .inl f_146)), (rC_steps, .inl (kC_steps, 18, .inl fC_steps)), (rC_below, .inl (kC_below, 18, .inl fC_below)), (rC_above, .inl (kC_above, 18, .inl fC_above))] H := hP
    have hD : va_D A [(oC, .inr (1, [.int iC_nodes, .int iC_words, .int iC_chances, .int iC_unsures, .int iC_slips, .int iC_throneNode, .int iC_saidWorth, .int iC_unit, .ref rC_kind, .ref rC_parts, .ref rC_partNodes, .ref rC_weights, .ref rC_weightSums, .ref rC_toldWorths, .ref rC_steps, .ref rC_below, .ref rC_above, .ref rC_unsureWords, .ref rC_unsureWorths])), (rC_kind, .inl (kC_kind, 18, .inl f_143)), (rC_parts, .inl (kC_parts, 18, .inl f_144)), (rC_weightSums, .inl (kC_weightSums, 18, .inl f_145)), (rC_toldWorths, .inl (kC_toldWorths, 18, .inl f_146)), (rC_steps, .inl (kC_steps, 18, .inl fC_steps)), (rC_below, .inl (kC_below, 18, .inl fC_below)), (rC_above, .inl (kC_above, 18, .inl fC_above))] := hD
    refine lv_aload_n hx hb dX1_beginNode_49 rfl (lv_at hl 0 rfl) ?_
    refine va_get (D := (dC, dI)) (ci := 1) (v := .ref rC_steps) (C := RX1) (T := TX1) (N := 19) hx hb hts inX1 hown hK hP 0 rfl rfl 14 (by decide) (hts _ wd_60) (fun _ h9 => h9) rfl dX1_beginNode_50 ?_
    refine lv_aload_n hx hb dX1_beginNode_53 rfl (lv_at hl 0 rfl) ?_
    refine va_get (D := (dC, dI)) (ci := 1) (v := .int iC_nodes) (C := RX1) (T := TX1) (N := 19) hx hb hts inX1 hown hK hP 0 rfl rfl 0 (by decide) (hts _ wd_215) (fun _ h9 => h9) rfl dX1_beginNode_54 ?_
    refine lv_iconst (v := 0) hx hb dX1_beginNode_57 (by decide) ?_
    refine vz_iast hx hb hK hP hD hS 5 4 rfl rfl (ti_in rfl (by omega) (by omega)) dX1_beginNode_58 (fun H locs f_147 hP hD hS => ?_)
    have hP : va_P (dC, dI) vwCl [(oC, .inr (1, [.int iC_nodes, .int iC_words, .int iC_chances, .int iC_unsures, .int iC_slips, .int iC_throneNode, .int iC_saidWorth, .int iC_unit, .ref rC_kind, .ref rC_parts, .ref rC_partNodes, .ref rC_weights, .ref rC_weightSums, .ref rC_toldWorths, .ref rC_steps, .ref rC_below, .ref rC_above, .ref rC_unsureWords, .ref rC_unsureWorths])), (rC_kind, .inl (kC_kind, 18, .inl f_143)), (rC_parts, .inl (kC_parts, 18, .inl f_144)), (rC_weightSums, .inl (kC_weightSums, 18, .inl f_145)), (rC_toldWorths, .inl (kC_toldWorths, 18, .inl f_146)), (rC_steps, .inl (kC_steps, 18, .inl f_147)), (rC_below, .inl (kC_below, 18, .inl fC_below)), (rC_above, .inl (kC_above, 18, .inl fC_above))] H := hP
    have hD : va_D A [(oC, .inr (1, [.int iC_nodes, .int iC_words, .int iC_chances, .int iC_unsures, .int iC_slips, .int iC_throneNode, .int iC_saidWorth, .int iC_unit, .ref rC_kind, .ref rC_parts, .ref rC_partNodes, .ref rC_weights, .ref rC_weightSums, .ref rC_toldWorths, .ref rC_steps, .ref rC_below, .ref rC_above, .ref rC_unsureWords, .ref rC_unsureWorths])), (rC_kind, .inl (kC_kind, 18, .inl f_143)), (rC_parts, .inl (kC_parts, 18, .inl f_144)), (rC_weightSums, .inl (kC_weightSums, 18, .inl f_145)), (rC_toldWorths, .inl (kC_toldWorths, 18, .inl f_146)), (rC_steps, .inl (kC_steps, 18, .inl f_147)), (rC_below, .inl (kC_below, 18, .inl fC_below)), (rC_above, .inl (kC_above, 18, .inl fC_above))] := hD
    refine lv_aload_n hx hb dX1_beginNode_59 rfl (lv_at hl 0 rfl) ?_
    refine va_get (D := (dC, dI)) (ci := 1) (v := .ref rC_below) (C := RX1) (T := TX1) (N := 19) hx hb hts inX1 hown hK hP 0 rfl rfl 15 (by decide) (hts _ wd_61) (fun _ h9 => h9) rfl dX1_beginNode_60 ?_
    refine lv_aload_n hx hb dX1_beginNode_63 rfl (lv_at hl 0 rfl) ?_
    refine va_get (D := (dC, dI)) (ci := 1) (v := .int iC_nodes) (C := RX1) (T := TX1) (N := 19) hx hb hts inX1 hown hK hP 0 rfl rfl 0 (by decide) (hts _ wd_215) (fun _ h9 => h9) rfl dX1_beginNode_64 ?_
    refine lv_iload_n hx hb dX1_beginNode_67 rfl (lv_at hl 1 rfl) ?_
    refine lv_if_ne (tgt := 80) hx hb dX1_beginNode_68 (by decide) (fun c_148 => ?_) (fun c_148 => ?_)
    · skip
      have gc_148 := ti_ne c_148 rfl kc_0
      refine lv_iconst (v := 0) hx hb dX1_beginNode_80 (by decide) ?_
      refine vz_iast hx hb hK hP hD hS 6 5 rfl rfl (ti_in rfl (by omega) (by omega)) dX1_beginNode_81 (fun H locs f_149 hP hD hS => ?_)
      have hP : va_P (dC, dI) vwCl [(oC, .inr (1, [.int iC_nodes, .int iC_words, .int iC_chances, .int iC_unsures, .int iC_slips, .int iC_throneNode, .int iC_saidWorth, .int iC_unit, .ref rC_kind, .ref rC_parts, .ref rC_partNodes, .ref rC_weights, .ref rC_weightSums, .ref rC_toldWorths, .ref rC_steps, .ref rC_below, .ref rC_above, .ref rC_unsureWords, .ref rC_unsureWorths])), (rC_kind, .inl (kC_kind, 18, .inl f_143)), (rC_parts, .inl (kC_parts, 18, .inl f_144)), (rC_weightSums, .inl (kC_weightSums, 18, .inl f_145)), (rC_toldWorths, .inl (kC_toldWorths, 18, .inl f_146)), (rC_steps, .inl (kC_steps, 18, .inl f_147)), (rC_below, .inl (kC_below, 18, .inl f_149)), (rC_above, .inl (kC_above, 18, .inl fC_above))] H := hP
      have hD : va_D A [(oC, .inr (1, [.int iC_nodes, .int iC_words, .int iC_chances, .int iC_unsures, .int iC_slips, .int iC_throneNode, .int iC_saidWorth, .int iC_unit, .ref rC_kind, .ref rC_parts, .ref rC_partNodes, .ref rC_weights, .ref rC_weightSums, .ref rC_toldWorths, .ref rC_steps, .ref rC_below, .ref rC_above, .ref rC_unsureWords, .ref rC_unsureWorths])), (rC_kind, .inl (kC_kind, 18, .inl f_143)), (rC_parts, .inl (kC_parts, 18, .inl f_144)), (rC_weightSums, .inl (kC_weightSums, 18, .inl f_145)), (rC_toldWorths, .inl (kC_toldWorths, 18, .inl f_146)), (rC_steps, .inl (kC_steps, 18, .inl f_147)), (rC_below, .inl (kC_below, 18, .inl f_149)), (rC_above, .inl (kC_above, 18, .inl fC_above))] := hD
      refine lv_aload_n hx hb dX1_beginNode_82 rfl (lv_at hl 0 rfl) ?_
      refine va_get (D := (dC, dI)) (ci := 1) (v := .ref rC_above) (C := RX1) (T := TX1) (N := 19) hx hb hts inX1 hown hK hP 0 rfl rfl 16 (by decide) (hts _ wd_62) (fun _ h9 => h9) rfl dX1_beginNode_83 ?_
      refine lv_aload_n hx hb dX1_beginNode_86 rfl (lv_at hl 0 rfl) ?_
      refine va_get (D := (dC, dI)) (ci := 1) (v := .int iC_nodes) (C := RX1) (T := TX1) (N := 19) hx hb hts inX1 hown hK hP 0 rfl rfl 0 (by decide) (hts _ wd_215) (fun _ h9 => h9) rfl dX1_beginNode_87 ?_
      refine lv_iconst (v := 0) hx hb dX1_beginNode_90 (by decide) ?_
      refine vz_iast hx hb hK hP hD hS 7 6 rfl rfl (ti_in rfl (by omega) (by omega)) dX1_beginNode_91 (fun H locs f_150 hP hD hS => ?_)
      have hP : va_P (dC, dI) vwCl [(oC, .inr (1, [.int iC_nodes, .int iC_words, .int iC_chances, .int iC_unsures, .int iC_slips, .int iC_throneNode, .int iC_saidWorth, .int iC_unit, .ref rC_kind, .ref rC_parts, .ref rC_partNodes, .ref rC_weights, .ref rC_weightSums, .ref rC_toldWorths, .ref rC_steps, .ref rC_below, .ref rC_above, .ref rC_unsureWords, .ref rC_unsureWorths])), (rC_kind, .inl (kC_kind, 18, .inl f_143)), (rC_parts, .inl (kC_parts, 18, .inl f_144)), (rC_weightSums, .inl (kC_weightSums, 18, .inl f_145)), (rC_toldWorths, .inl (kC_toldWorths, 18, .inl f_146)), (rC_steps, .inl (kC_steps, 18, .inl f_147)), (rC_below, .inl (kC_below, 18, .inl f_149)), (rC_above, .inl (kC_above, 18, .inl f_150))] H := hP
      have hD : va_D A [(oC, .inr (1, [.int iC_nodes, .int iC_words, .int iC_chances, .int iC_unsures, .int iC_slips, .int iC_throneNode, .int iC_saidWorth, .int iC_unit, .ref rC_kind, .ref rC_parts, .ref rC_partNodes, .ref rC_weights, .ref rC_weightSums, .ref rC_toldWorths, .ref rC_steps, .ref rC_below, .ref rC_above, .ref rC_unsureWords, .ref rC_unsureWorths])), (rC_kind, .inl (kC_kind, 18, .inl f_143)), (rC_parts, .inl (kC_parts, 18, .inl f_144)), (rC_weightSums, .inl (kC_weightSums, 18, .inl f_145)), (rC_toldWorths, .inl (kC_toldWorths, 18, .inl f_146)), (rC_steps, .inl (kC_steps, 18, .inl f_147)), (rC_below, .inl (kC_below, 18, .inl f_149)), (rC_above, .inl (kC_above, 18, .inl f_150))] := hD
      have hP9 := hP.sub (ws' := [(oC, .inr (1, [.int iC_nodes, .int iC_words, .int iC_chances, .int iC_unsures, .int iC_slips, .int iC_throneNode, .int iC_saidWorth, .int iC_unit, .ref rC_kind, .ref rC_parts, .ref rC_partNodes, .ref rC_weights, .ref rC_weightSums, .ref rC_toldWorths, .ref rC_steps, .ref rC_below, .ref rC_above, .ref rC_unsureWords, .ref rC_unsureWorths])), (rC_kind, .inl (kC_kind, 18, .inl f_143)), (rC_parts, .inl (kC_parts, 18, .inl f_144)), (rC_weightSums, .inl (kC_weightSums, 18, .inl f_145)), (rC_toldWorths, .inl (kC_toldWorths, 18, .inl f_146)), (rC_steps, .inl (kC_steps, 18, .inl f_147)), (rC_below, .inl (kC_below, 18, .inl f_149)), (rC_above, .inl (kC_above, 18, .inl f_150))]) [0, 1, 2, 3, 4, 5, 6, 7] rfl
      have hD9 := hD.sub (ws' := [(oC, .inr (1, [.int iC_nodes, .int iC_words, .int iC_chances, .int iC_unsures, .int iC_slips, .int iC_throneNode, .int iC_saidWorth, .int iC_unit, .ref rC_kind, .ref rC_parts, .ref rC_partNodes, .ref rC_weights, .ref rC_weightSums, .ref rC_toldWorths, .ref rC_steps, .ref rC_below, .ref rC_above, .ref rC_unsureWords, .ref rC_unsureWorths])), (rC_kind, .inl (kC_kind, 18, .inl f_143)), (rC_parts, .inl (kC_parts, 18, .inl f_144)), (rC_weightSums, .inl (kC_weightSums, 18, .inl f_145)), (rC_toldWorths, .inl (kC_toldWorths, 18, .inl f_146)), (rC_steps, .inl (kC_steps, 18, .inl f_147)), (rC_below, .inl (kC_below, 18, .inl f_149)), (rC_above, .inl (kC_above, 18, .inl f_150))]) [0, 1, 2, 3, 4, 5, 6, 7] (by decide) rfl
      have hK9 := hK.sub (tys' := [(kC_kind, .int), (kC_parts, .int), (kC_weightSums, .int), (kC_toldWorths, .int), (kC_steps, .int), (kC_below, .int), (kC_above, .int)]) [0, 1, 2, 3, 4, 5, 6] rfl
      exact W.vret hx hb hr (fun t ht hW => ⟨⟨0, rfl, trivial, ⟨f_143, f_144, f_145, f_146, f_147, f_149, f_150, a_f_144, Bw.to hP9 hD9 hK9 ht hW⟩⟩, hS.F ht⟩) hS.2.2 dX1_beginNode_92
    · skip
      have gc_148 := ti_eq c_148 rfl kc_0
      refine lv_iconst (v := 1) hx hb dX1_beginNode_71 (by decide) ?_
      refine lv_aload_n hx hb dX1_beginNode_72 rfl (lv_at hl 0 rfl) ?_
      refine va_get (D := (dC, dI)) (ci := 1) (v := .int iC_nodes) (C := RX1) (T := TX1) (N := 19) hx hb hts inX1 hown hK hP 0 rfl rfl 0 (by decide) (hts _ wd_215) (fun _ h9 => h9) rfl dX1_beginNode_73 ?_
      refine lv_ishl hx hb dX1_beginNode_76 ?_
      refine lv_topi (fun x_151 ex_151 => ?_)
      have rg_x_151 := fb_rng x_151
      refine lv_goto (tgt := 81) hx hb dX1_beginNode_77 (by decide) ?_
      refine vz_iast hx hb hK hP hD hS 6 5 rfl rfl (ti_in rfl (by omega) (by omega)) dX1_beginNode_81 (fun H locs f_152 hP hD hS => ?_)
      have hP : va_P (dC, dI) vwCl [(oC, .inr (1, [.int iC_nodes, .int iC_words, .int iC_chances, .int iC_unsures, .int iC_slips, .int iC_throneNode, .int iC_saidWorth, .int iC_unit, .ref rC_kind, .ref rC_parts, .ref rC_partNodes, .ref rC_weights, .ref rC_weightSums, .ref rC_toldWorths, .ref rC_steps, .ref rC_below, .ref rC_above, .ref rC_unsureWords, .ref rC_unsureWorths])), (rC_kind, .inl (kC_kind, 18, .inl f_143)), (rC_parts, .inl (kC_parts, 18, .inl f_144)), (rC_weightSums, .inl (kC_weightSums, 18, .inl f_145)), (rC_toldWorths, .inl (kC_toldWorths, 18, .inl f_146)), (rC_steps, .inl (kC_steps, 18, .inl f_147)), (rC_below, .inl (kC_below, 18, .inl f_152)), (rC_above, .inl (kC_above, 18, .inl fC_above))] H := hP
      have hD : va_D A [(oC, .inr (1, [.int iC_nodes, .int iC_words, .int iC_chances, .int iC_unsures, .int iC_slips, .int iC_throneNode, .int iC_saidWorth, .int iC_unit, .ref rC_kind, .ref rC_parts, .ref rC_partNodes, .ref rC_weights, .ref rC_weightSums, .ref rC_toldWorths, .ref rC_steps, .ref rC_below, .ref rC_above, .ref rC_unsureWords, .ref rC_unsureWorths])), (rC_kind, .inl (kC_kind, 18, .inl f_143)), (rC_parts, .inl (kC_parts, 18, .inl f_144)), (rC_weightSums, .inl (kC_weightSums, 18, .inl f_145)), (rC_toldWorths, .inl (kC_toldWorths, 18, .inl f_146)), (rC_steps, .inl (kC_steps, 18, .inl f_147)), (rC_below, .inl (kC_below, 18, .inl f_152)), (rC_above, .inl (kC_above, 18, .inl fC_above))] := hD
      refine lv_aload_n hx hb dX1_beginNode_82 rfl (lv_at hl 0 rfl) ?_
      refine va_get (D := (dC, dI)) (ci := 1) (v := .ref rC_above) (C := RX1) (T := TX1) (N := 19) hx hb hts inX1 hown hK hP 0 rfl rfl 16 (by decide) (hts _ wd_62) (fun _ h9 => h9) rfl dX1_beginNode_83 ?_
      refine lv_aload_n hx hb dX1_beginNode_86 rfl (lv_at hl 0 rfl) ?_
      refine va_get (D := (dC, dI)) (ci := 1) (v := .int iC_nodes) (C := RX1) (T := TX1) (N := 19) hx hb hts inX1 hown hK hP 0 rfl rfl 0 (by decide) (hts _ wd_215) (fun _ h9 => h9) rfl dX1_beginNode_87 ?_
      refine lv_iconst (v := 0) hx hb dX1_beginNode_90 (by decide) ?_
      refine vz_iast hx hb hK hP hD hS 7 6 rfl rfl (ti_in rfl (by omega) (by omega)) dX1_beginNode_91 (fun H locs f_153 hP hD hS => ?_)
      have hP : va_P (dC, dI) vwCl [(oC, .inr (1, [.int iC_nodes, .int iC_words, .int iC_chances, .int iC_unsures, .int iC_slips, .int iC_throneNode, .int iC_saidWorth, .int iC_unit, .ref rC_kind, .ref rC_parts, .ref rC_partNodes, .ref rC_weights, .ref rC_weightSums, .ref rC_toldWorths, .ref rC_steps, .ref rC_below, .ref rC_above, .ref rC_unsureWords, .ref rC_unsureWorths])), (rC_kind, .inl (kC_kind, 18, .inl f_143)), (rC_parts, .inl (kC_parts, 18, .inl f_144)), (rC_weightSums, .inl (kC_weightSums, 18, .inl f_145)), (rC_toldWorths, .inl (kC_toldWorths, 18, .inl f_146)), (rC_steps, .inl (kC_steps, 18, .inl f_147)), (rC_below, .inl (kC_below, 18, .inl f_152)), (rC_above, .inl (kC_above, 18, .inl f_153))] H := hP
      have hD : va_D A [(oC, .inr (1, [.int iC_nodes, .int iC_words, .int iC_chances, .int iC_unsures, .int iC_slips, .int iC_throneNode, .int iC_saidWorth, .int iC_unit, .ref rC_kind, .ref rC_parts, .ref rC_partNodes, .ref rC_weights, .ref rC_weightSums, .ref rC_toldWorths, .ref rC_steps, .ref rC_below, .ref rC_above, .ref rC_unsureWords, .ref rC_unsureWorths])), (rC_kind, .inl (kC_kind, 18, .inl f_143)), (rC_parts, .inl (kC_parts, 18, .inl f_144)), (rC_weightSums, .inl (kC_weightSums, 18, .inl f_145)), (rC_toldWorths, .inl (kC_toldWorths, 18, .inl f_146)), (rC_steps, .inl (kC_steps, 18, .inl f_147)), (rC_below, .inl (kC_below, 18, .inl f_152)), (rC_above, .inl (kC_above, 18, .inl f_153))] := hD
      have hP9 := hP.sub (ws' := [(oC, .inr (1, [.int iC_nodes, .int iC_words, .int iC_chances, .int iC_unsures, .int iC_slips, .int iC_throneNode, .int iC_saidWorth, .int iC_unit, .ref rC_kind, .ref rC_parts, .ref rC_partNodes, .ref rC_weights, .ref rC_weightSums, .ref rC_toldWorths, .ref rC_steps, .ref rC_below, .ref rC_above, .ref rC_unsureWords, .ref rC_unsureWorths])), (rC_kind, .inl (kC_kind, 18, .inl f_143)), (rC_parts, .inl (kC_parts, 18, .inl f_144)), (rC_weightSums, .inl (kC_weightSums, 18, .inl f_145)), (rC_toldWorths, .inl (kC_toldWorths, 18, .inl f_146)), (rC_steps, .inl (kC_steps, 18, .inl f_147)), (rC_below, .inl (kC_below, 18, .inl f_152)), (rC_above, .inl (kC_above, 18, .inl f_153))]) [0, 1, 2, 3, 4, 5, 6, 7] rfl
      have hD9 := hD.sub (ws' := [(oC, .inr (1, [.int iC_nodes, .int iC_words, .int iC_chances, .int iC_unsures, .int iC_slips, .int iC_throneNode, .int iC_saidWorth, .int iC_unit, .ref rC_kind, .ref rC_parts, .ref rC_partNodes, .ref rC_weights, .ref rC_weightSums, .ref rC_toldWorths, .ref rC_steps, .ref rC_below, .ref rC_above, .ref rC_unsureWords, .ref rC_unsureWorths])), (rC_kind, .inl (kC_kind, 18, .inl f_143)), (rC_parts, .inl (kC_parts, 18, .inl f_144)), (rC_weightSums, .inl (kC_weightSums, 18, .inl f_145)), (rC_toldWorths, .inl (kC_toldWorths, 18, .inl f_146)), (rC_steps, .inl (kC_steps, 18, .inl f_147)), (rC_below, .inl (kC_below, 18, .inl f_152)), (rC_above, .inl (kC_above, 18, .inl f_153))]) [0, 1, 2, 3, 4, 5, 6, 7] (by decide) rfl
      have hK9 := hK.sub (tys' := [(kC_kind, .int), (kC_parts, .int), (kC_weightSums, .int), (kC_toldWorths, .int), (kC_steps, .int), (kC_below, .int), (kC_above, .int)]) [0, 1, 2, 3, 4, 5, 6] rfl
      exact W.vret hx hb hr (fun t ht hW => ⟨⟨0, rfl, trivial, ⟨f_143, f_144, f_145, f_146, f_147, f_152, f_153, a_f_144, Bw.to hP9 hD9 hK9 ht hW⟩⟩, hS.F ht⟩) hS.2.2 dX1_beginNode_92
set_option maxHeartbeats 4000000 in
set_option maxRecDepth 100000 in
theorem tX1_endNode (l : Launch) (dC : Nat → ClassId) (dI : Nat → Nat → Nat) (sz : Nat) (oC : Nat) (iC_nodes : Int32) (iC_words : Int32) (iC_chances : Int32) (iC_unsures : Int32) (iC_slips : Int32) (iC_throneNode : Int32) (iC_saidWorth : Int32) (iC_unit : Int32) (rC_kind : Nat) (fC_kind : Nat → Int32) (kC_kind : ClassId) (rC_parts : Nat) (rC_partNodes : Nat) (rC_weights : Nat) (rC_weightSums : Nat) (fC_weightSums : Nat → Int32) (kC_weightSums : ClassId) (rC_toldWorths : Nat) (fC_toldWorths : Nat → Int32) (kC_toldWorths : ClassId) (rC_steps : Nat) (rC_below : Nat) (rC_above : Nat) (rC_unsureWords : Nat) (rC_unsureWorths : Nat) (p0 : Int32) (b_iC_nodes : 0 ≤ iC_nodes.toInt ∧ iC_nodes.toInt ≤ 18) (b_iC_unsures : 0 ≤ iC_unsures.toInt ∧ iC_unsures.toInt ≤ 4) (b_iC_throneNode : (-1) ≤ iC_throneNode.toInt ∧ iC_throneNode.toInt ≤ 17)  : Met l yX1_endNode (Cond.code yX1_endNode cX1_endNode 2 none :: wG) ({ frames := 0, cells := 0, slots := 0, locals := 0 }) (va_Pc [.ref oC, .int p0] (Pw dC dI sz [(oC, .inr (1, [.int iC_nodes, .int iC_words, .int iC_chances, .int iC_unsures, .int iC_slips, .int iC_throneNode, .int iC_saidWorth, .int iC_unit, .ref rC_kind, .ref rC_parts, .ref rC_partNodes, .ref rC_weights, .ref rC_weightSums, .ref rC_toldWorths, .ref rC_steps, .ref rC_below, .ref rC_above, .ref rC_unsureWords, .ref rC_unsureWorths])), (rC_kind, .inl (kC_kind, 18, .inl fC_kind)), (rC_weightSums, .inl (kC_weightSums, 18, .inl fC_weightSums)), (rC_toldWorths, .inl (kC_toldWorths, 18, .inl fC_toldWorths))] [(kC_kind, .int), (kC_weightSums, .int), (kC_toldWorths, .int)])) (va_Qv (fun (_ : Nat) => True) (fun (_ : Nat) (t : State) => ∃ (niC_nodes : Int32) (niC_words : Int32) (niC_chances : Int32) (niC_unit : Int32) (nfC_toldWorths : Nat → Int32), (0 ≤ niC_nodes.toInt ∧ niC_nodes.toInt ≤ 18) ∧ Bw dC dI (va_A [(oC, .inr (1, [.int iC_nodes, .int iC_words, .int iC_chances, .int iC_unsures, .int iC_slips, .int iC_throneNode, .int iC_saidWorth, .int iC_unit, .ref rC_kind, .ref rC_parts, .ref rC_partNodes, .ref rC_weights, .ref rC_weightSums, .ref rC_toldWorths, .ref rC_steps, .ref rC_below, .ref rC_above, .ref rC_unsureWords, .ref rC_unsureWorths])), (rC_kind, .inl (kC_kind, 18, .inl fC_kind)), (rC_weightSums, .inl (kC_weightSums, 18, .inl fC_weightSums)), (rC_toldWorths, .inl (kC_toldWorths, 18, .inl fC_toldWorths))] sz) [(oC, .inr (1, [.int niC_nodes, .int niC_words, .int niC_chances, .int iC_unsures, .int iC_slips, .int iC_throneNode, .int iC_saidWorth, .int niC_unit, .ref rC_kind, .ref rC_parts, .ref rC_partNodes, .ref rC_weights, .ref rC_weightSums, .ref rC_toldWorths, .ref rC_steps, .ref rC_below, .ref rC_above, .ref rC_unsureWords, .ref rC_unsureWorths])), (rC_kind, .inl (kC_kind, 18, .inl fC_kind)), (rC_weightSums, .inl (kC_weightSums, 18, .inl fC_weightSums)), (rC_toldWorths, .inl (kC_toldWorths, 18, .inl nfC_toldWorths))] [(kC_kind, .int), (kC_weightSums, .int), (kC_toldWorths, .int)] t) (va_A [(oC, .inr (1, [.int iC_nodes, .int iC_words, .int iC_chances, .int iC_unsures, .int iC_slips, .int iC_throneNode, .int iC_saidWorth, .int iC_unit, .ref rC_kind, .ref rC_parts, .ref rC_partNodes, .ref rC_weights, .ref rC_weightSums, .ref rC_toldWorths, .ref rC_steps, .ref rC_below, .ref rC_above, .ref rC_unsureWords, .ref rC_unsureWorths])), (rC_kind, .inl (kC_kind, 18, .inl fC_kind)), (rC_weightSums, .inl (kC_weightSums, 18, .inl fC_weightSums)), (rC_toldWorths, .inl (kC_toldWorths, 18, .inl fC_toldWorths))] sz)) 0 0 (va_A [(oC, .inr (1, [.int iC_nodes, .int iC_words, .int iC_chances, .int iC_unsures, .int iC_slips, .int iC_throneNode, .int iC_saidWorth, .int iC_unit, .ref rC_kind, .ref rC_parts, .ref rC_partNodes, .ref rC_weights, .ref rC_weightSums, .ref rC_toldWorths, .ref rC_steps, .ref rC_below, .ref rC_above, .ref rC_unsureWords, .ref rC_unsureWorths])), (rC_kind, .inl (kC_kind, 18, .inl fC_kind)), (rC_weightSums, .inl (kC_weightSums, 18, .inl fC_weightSums)), (rC_toldWorths, .inl (kC_toldWorths, 18, .inl fC_toldWorths))] sz) := by
  refine Met.ofW (cc := cX1_endNode) (maxL := 2) (ret := none) (by decide) rfl ?_
  intro p e s m args below meth c s₁ B hml hv
  obtain ⟨rfl, hsz, hP, hK, hD0, hE⟩ := hv
  have hx := B.exec
  have hb := B.bytes
  have hr := B.returns
  have hts : ∀ w ∈ wG, w.before ([.ref oC, .int p0] : List Value).toArray s = true := fun w h => atoms_spec (ws := Cond.code yX1_endNode cX1_endNode 2 none :: wG) B.pre w (List.mem_cons_of_mem _ h)
  have hown : s.vm.findClass RX1 = some m.cls := findClass_of_methodNamed B.named
  have hlocks := B.notSynchronized
  subst hsz
  have hD := hD0.self (sz := s.heap.size)
  generalize hAe : va_A [(oC, .inr (1, [.int iC_nodes, .int iC_words, .int iC_chances, .int iC_unsures, .int iC_slips, .int iC_throneNode, .int iC_saidWorth, .int iC_unit, .ref rC_kind, .ref rC_parts, .ref rC_partNodes, .ref rC_weights, .ref rC_weightSums, .ref rC_toldWorths, .ref rC_steps, .ref rC_below, .ref rC_above, .ref rC_unsureWords, .ref rC_unsureWorths])), (rC_kind, .inl (kC_kind, 18, .inl fC_kind)), (rC_weightSums, .inl (kC_weightSums, 18, .inl fC_weightSums)), (rC_toldWorths, .inl (kC_toldWorths, 18, .inl fC_toldWorths))] s.heap.size = A at hD hE ⊢
  have hA : ∀ q : Nat, s.heap.size ≤ q → A q := fun q h => by rw [← hAe]; exact Or.inr h
  have hS : va_S A s.heap s.heap [] := va_S.rf
  have hl := lv_entry ([.ref oC, .int p0]) (n := 2) (Nat.le_of_ble_eq_true rfl)
  rw [lg_entry_eq]
  generalize (lg_sl ([.ref oC, .int p0]) ++ List.replicate (2 - (lg_sl ([.ref oC, .int p0])).length) Slot.unset).toArray = ls at hl ⊢
  have hl : lv_has ls 2 [(0, .ref oC), (1, .int p0)] := hl
  have rg_p0 := fb_rng p0
  refine lv_aload_n hx hb dX1_endNode_0 rfl (lv_at hl 0 rfl) ?_
  refine va_get (D := (dC, dI)) (ci := 1) (v := .int iC_nodes) (C := RX1) (T := TX1) (N := 19) hx hb hts inX1 hown hK hP 0 rfl rfl 0 (by decide) (hts _ wd_215) (fun _ h9 => h9) rfl dX1_endNode_1 ?_
  have rg_iC_nodes := fb_rng iC_nodes
  refine lv_bipush (v := 18) hx hb dX1_endNode_4 (by decide) ?_
  refine lv_icmp_ge (tgt := 92) hx hb dX1_endNode_6 (by decide) (fun c_169 => ?_) (fun c_169 => ?_)
  · skip
    have gc_169 := ti_le c_169 kc_18 rfl
    have hP9 := hP.sub (ws' := [(oC, .inr (1, [.int iC_nodes, .int iC_words, .int iC_chances, .int iC_unsures, .int iC_slips, .int iC_throneNode, .int iC_saidWorth, .int iC_unit, .ref rC_kind, .ref rC_parts, .ref rC_partNodes, .ref rC_weights, .ref rC_weightSums, .ref rC_toldWorths, .ref rC_steps, .ref rC_below, .ref rC_above, .ref rC_unsureWords, .ref rC_unsureWorths])), (rC_kind, .inl (kC_kind, 18, .inl fC_kind)), (rC_weightSums, .inl (kC_weightSums, 18, .inl fC_weightSums)), (rC_toldWorths, .inl (kC_toldWorths, 18, .inl fC_toldWorths))]) [0, 1, 2, 3] rfl
    have hD9 := hD.sub (ws' := [(oC, .inr (1, [.int iC_nodes, .int iC_words, .int iC_chances, .int iC_unsures, .int iC_slips, .int iC_throneNode, .int iC_saidWorth, .int iC_unit, .ref rC_kind, .ref rC_parts, .ref rC_partNodes, .ref rC_weights, .ref rC_weightSums, .ref rC_toldWorths, .ref rC_steps, .ref rC_below, .ref rC_above, .ref rC_unsureWords, .ref rC_unsureWorths])), (rC_kind, .inl (kC_kind, 18, .inl fC_kind)), (rC_weightSums, .inl (kC_weightSums, 18, .inl fC_weightSums)), (rC_toldWorths, .inl (kC_toldWorths, 18, .inl fC_toldWorths))]) [0, 1, 2, 3] (by decide) rfl
    have hK9 := hK.sub (tys' := [(kC_kind, .int), (kC_weightSums, .int), (kC_toldWorths, .int)]) [0, 1, 2] rfl
    exact W.vret hx hb hr (fun t ht hW => ⟨⟨0, rfl, trivial, ⟨iC_nodes, iC_words, iC_chances, iC_unit, fC_toldWorths, (by omega), Bw.to hP9 hD9 hK9 ht hW⟩⟩, hS.F ht⟩) hS.2.2 dX1_endNode_92
  · skip
    have gc_169 := ti_nle c_169 kc_18 rfl
    refine lv_aload_n hx hb dX1_endNode_9 rfl (lv_at hl 0 rfl) ?_
    refine va_get (D := (dC, dI)) (ci := 1) (v := .ref rC_toldWorths) (C := RX1) (T := TX1) (N := 19) hx hb hts inX1 hown hK hP 0 rfl rfl 13 (by decide) (hts _ wd_59) (fun _ h9 => h9) rfl dX1_endNode_10 ?_
    refine lv_aload_n hx hb dX1_endNode_13 rfl (lv_at hl 0 rfl) ?_
    refine va_get (D := (dC, dI)) (ci := 1) (v := .int iC_nodes) (C := RX1) (T := TX1) (N := 19) hx hb hts inX1 hown hK hP 0 rfl rfl 0 (by decide) (hts _ wd_215) (fun _ h9 => h9) rfl dX1_endNode_14 ?_
    refine lv_iload_n hx hb dX1_endNode_17 rfl (lv_at hl 1 rfl) ?_
    refine vz_iast hx hb hK hP hD hS 3 2 rfl rfl (ti_in rfl (by omega) (by omega)) dX1_endNode_18 (fun H locs f_170 hP hD hS => ?_)
    have hP : va_P (dC, dI) vwCl [(oC, .inr (1, [.int iC_nodes, .int iC_words, .int iC_chances, .int iC_unsures, .int iC_slips, .int iC_throneNode, .int iC_saidWorth, .int iC_unit, .ref rC_kind, .ref rC_parts, .ref rC_partNodes, .ref rC_weights, .ref rC_weightSums, .ref rC_toldWorths, .ref rC_steps, .ref rC_below, .ref rC_above, .ref rC_unsureWords, .ref rC_unsureWorths])), (rC_kind, .inl (kC_kind, 18, .inl fC_kind)), (rC_weightSums, .inl (kC_weightSums, 18, .inl fC_weightSums)), (rC_toldWorths, .inl (kC_toldWorths, 18, .inl f_170))] H := hP
    have hD : va_D A [(oC, .inr (1, [.int iC_nodes, .int iC_words, .int iC_chances, .int iC_unsures, .int iC_slips, .int iC_throneNode, .int iC_saidWorth, .int iC_unit, .ref rC_kind, .ref rC_parts, .ref rC_partNodes, .ref rC_weights, .ref rC_weightSums, .ref rC_toldWorths, .ref rC_steps, .ref rC_below, .ref rC_above, .ref rC_unsureWords, .ref rC_unsureWorths])), (rC_kind, .inl (kC_kind, 18, .inl fC_kind)), (rC_weightSums, .inl (kC_weightSums, 18, .inl fC_weightSums)), (rC_toldWorths, .inl (kC_toldWorths, 18, .inl f_170))] := hD
    refine lv_aload_n hx hb dX1_endNode_19 rfl (lv_at hl 0 rfl) ?_
    refine va_get (D := (dC, dI)) (ci := 1) (v := .ref rC_kind) (C := RX1) (T := TX1) (N := 19) hx hb hts inX1 hown hK hP 0 rfl rfl 8 (by decide) (hts _ wd_54) (fun _ h9 => h9) rfl dX1_endNode_20 ?_
    refine lv_aload_n hx hb dX1_endNode_23 rfl (lv_at hl 0 rfl) ?_
    refine va_get (D := (dC, dI)) (ci := 1) (v := .int iC_nodes) (C := RX1) (T := TX1) (N := 19) hx hb hts inX1 hown hK hP 0 rfl rfl 0 (by decide) (hts _ wd_215) (fun _ h9 => h9) rfl dX1_endNode_24 ?_
    refine va_iald hx hb hK hP 1 0 rfl rfl (ti_in rfl (by omega) (by omega)) dX1_endNode_27 ?_
    refine lv_topi (fun x_171 ex_171 => ?_)
    have rg_x_171 := fb_rng x_171
    have kx_171 : (fC_kind iC_nodes.toNatClampNeg).toInt = x_171.toInt := by rw [ex_171]
    refine lv_if_ne (tgt := 41) hx hb dX1_endNode_28 (by decide) (fun c_172 => ?_) (fun c_172 => ?_)
    · skip
      have gc_172 := ti_ne c_172 rfl kc_0
      refine lv_aload_n hx hb dX1_endNode_41 rfl (lv_at hl 0 rfl) ?_
      refine va_get (D := (dC, dI)) (ci := 1) (v := .ref rC_kind) (C := RX1) (T := TX1) (N := 19) hx hb hts inX1 hown hK hP 0 rfl rfl 8 (by decide) (hts _ wd_54) (fun _ h9 => h9) rfl dX1_endNode_42 ?_
      refine lv_aload_n hx hb dX1_endNode_45 rfl (lv_at hl 0 rfl) ?_
      refine va_get (D := (dC, dI)) (ci := 1) (v := .int iC_nodes) (C := RX1) (T := TX1) (N := 19) hx hb hts inX1 hown hK hP 0 rfl rfl 0 (by decide) (hts _ wd_215) (fun _ h9 => h9) rfl dX1_endNode_46 ?_
      refine va_iald hx hb hK hP 1 0 rfl rfl (ti_in rfl (by omega) (by omega)) dX1_endNode_49 ?_
      refine lv_topi (fun x_173 ex_173 => ?_)
      have rg_x_173 := fb_rng x_173
      have kx_173 : (fC_kind iC_nodes.toNatClampNeg).toInt = x_173.toInt := by rw [ex_173]
      refine lv_iconst (v := 3) hx hb dX1_endNode_50 (by decide) ?_
      refine lv_icmp_ne (tgt := 82) hx hb dX1_endNode_51 (by decide) (fun c_174 => ?_) (fun c_174 => ?_)
      · skip
        have gc_174 := ti_ne c_174 rfl kc_3
        refine lv_aload_n hx hb dX1_endNode_82 rfl (lv_at hl 0 rfl) ?_
        refine lv_dup hx hb dX1_endNode_83 rfl ?_
        refine va_get (D := (dC, dI)) (ci := 1) (v := .int iC_nodes) (C := RX1) (T := TX1) (N := 19) hx hb hts inX1 hown hK hP 0 rfl rfl 0 (by decide) (hts _ wd_215) (fun _ h9 => h9) rfl dX1_endNode_84 ?_
        refine lv_iconst (v := 1) hx hb dX1_endNode_87 (by decide) ?_
        refine lv_iadd hx hb dX1_endNode_88 ?_
        refine lv_topi (fun x_175 ex_175 => ?_)
        have vx_175 : x_175.toInt = iC_nodes.toInt + 1 := by have q := ti_add ex_175 rfl kc_1 (by omega) (by omega); omega
        refine va_put (D := (dC, dI)) (ci := 1) (v := .int x_175) (ty := .int) (C := RX1) (T := TX1) (N := 19) hx hb hts inX1 tyX1 tyX1_ok nmX1 hown hK hP hD hS 0 rfl rfl 0 (by decide) (hts _ wd_215) (fun _ h9 => h9) rfl (by decide +kernel) rfl rfl (Nat.le_of_ble_eq_true rfl) dX1_endNode_89 (fun H locs hP hD hS => ?_)
        have hP : va_P (dC, dI) vwCl [(oC, .inr (1, [.int x_175, .int iC_words, .int iC_chances, .int iC_unsures, .int iC_slips, .int iC_throneNode, .int iC_saidWorth, .int iC_unit, .ref rC_kind, .ref rC_parts, .ref rC_partNodes, .ref rC_weights, .ref rC_weightSums, .ref rC_toldWorths, .ref rC_steps, .ref rC_below, .ref rC_above, .ref rC_unsureWords, .ref rC_unsureWorths])), (rC_kind, .inl (kC_kind, 18, .inl fC_kind)), (rC_weightSums, .inl (kC_weightSums, 18, .inl fC_weightSums)), (rC_toldWorths, .inl (kC_toldWorths, 18, .inl f_170))] H := hP
        have hD : va_D A [(oC, .inr (1, [.int x_175, .int iC_words, .int iC_chances, .int iC_unsures, .int iC_slips, .int iC_throneNode, .int iC_saidWorth, .int iC_unit, .ref rC_kind, .ref rC_parts, .ref rC_partNodes, .ref rC_weights, .ref rC_weightSums, .ref rC_toldWorths, .ref rC_steps, .ref rC_below, .ref rC_above, .ref rC_unsureWords, .ref rC_unsureWorths])), (rC_kind, .inl (kC_kind, 18, .inl fC_kind)), (rC_weightSums, .inl (kC_weightSums, 18, .inl fC_weightSums)), (rC_toldWorths, .inl (kC_toldWorths, 18, .inl f_170))] := hD
        have hP9 := hP.sub (ws' := [(oC, .inr (1, [.int x_175, .int iC_words, .int iC_chances, .int iC_unsures, .int iC_slips, .int iC_throneNode, .int iC_saidWorth, .int iC_unit, .ref rC_kind, .ref rC_parts, .ref rC_partNodes, .ref rC_weights, .ref rC_weightSums, .ref rC_toldWorths, .ref rC_steps, .ref rC_below, .ref rC_above, .ref rC_unsureWords, .ref rC_unsureWorths])), (rC_kind, .inl (kC_kind, 18, .inl fC_kind)), (rC_weightSums, .inl (kC_weightSums, 18, .inl fC_weightSums)), (rC_toldWorths, .inl (kC_toldWorths, 18, .inl f_170))]) [0, 1, 2, 3] rfl
        have hD9 := hD.sub (ws' := [(oC, .inr (1, [.int x_175, .int iC_words, .int iC_chances, .int iC_unsures, .int iC_slips, .int iC_throneNode, .int iC_saidWorth, .int iC_unit, .ref rC_kind, .ref rC_parts, .ref rC_partNodes, .ref rC_weights, .ref rC_weightSums, .ref rC_toldWorths, .ref rC_steps, .ref rC_below, .ref rC_above, .ref rC_unsureWords, .ref rC_unsureWorths])), (rC_kind, .inl (kC_kind, 18, .inl fC_kind)), (rC_weightSums, .inl (kC_weightSums, 18, .inl fC_weightSums)), (rC_toldWorths, .inl (kC_toldWorths, 18, .inl f_170))]) [0, 1, 2, 3] (by decide) rfl
        have hK9 := hK.sub (tys' := [(kC_kind, .int), (kC_weightSums, .int), (kC_toldWorths, .int)]) [0, 1, 2] rfl
        exact W.vret hx hb hr (fun t ht hW => ⟨⟨0, rfl, trivial, ⟨x_175, iC_words, iC_chances, iC_unit, f_170, (by have q := vx_175; omega), Bw.to hP9 hD9 hK9 ht hW⟩⟩, hS.F ht⟩) hS.2.2 dX1_endNode_92
      · skip
        have gc_174 := ti_eq c_174 rfl kc_3
        refine lv_aload_n hx hb dX1_endNode_54 rfl (lv_at hl 0 rfl) ?_
        refine lv_dup hx hb dX1_endNode_55 rfl ?_
        refine va_get (D := (dC, dI)) (ci := 1) (v := .int iC_chances) (C := RX1) (T := TX1) (N := 19) hx hb hts inX1 hown hK hP 0 rfl rfl 2 (by decide) (hts _ wd_217) (fun _ h9 => h9) rfl dX1_endNode_56 ?_
        have rg_iC_chances := fb_rng iC_chances
        refine lv_iconst (v := 1) hx hb dX1_endNode_59 (by decide) ?_
        refine lv_iadd hx hb dX1_endNode_60 ?_
        refine lv_topi (fun x_176 ex_176 => ?_)
        have rg_x_176 := fb_rng x_176
        refine va_put (D := (dC, dI)) (ci := 1) (v := .int x_176) (ty := .int) (C := RX1) (T := TX1) (N := 19) hx hb hts inX1 tyX1 tyX1_ok nmX1 hown hK hP hD hS 0 rfl rfl 2 (by decide) (hts _ wd_217) (fun _ h9 => h9) rfl (by decide +kernel) rfl rfl (Nat.le_of_ble_eq_true rfl) dX1_endNode_61 (fun H locs hP hD hS => ?_)
        have hP : va_P (dC, dI) vwCl [(oC, .inr (1, [.int iC_nodes, .int iC_words, .int x_176, .int iC_unsures, .int iC_slips, .int iC_throneNode, .int iC_saidWorth, .int iC_unit, .ref rC_kind, .ref rC_parts, .ref rC_partNodes, .ref rC_weights, .ref rC_weightSums, .ref rC_toldWorths, .ref rC_steps, .ref rC_below, .ref rC_above, .ref rC_unsureWords, .ref rC_unsureWorths])), (rC_kind, .inl (kC_kind, 18, .inl fC_kind)), (rC_weightSums, .inl (kC_weightSums, 18, .inl fC_weightSums)), (rC_toldWorths, .inl (kC_toldWorths, 18, .inl f_170))] H := hP
        have hD : va_D A [(oC, .inr (1, [.int iC_nodes, .int iC_words, .int x_176, .int iC_unsures, .int iC_slips, .int iC_throneNode, .int iC_saidWorth, .int iC_unit, .ref rC_kind, .ref rC_parts, .ref rC_partNodes, .ref rC_weights, .ref rC_weightSums, .ref rC_toldWorths, .ref rC_steps, .ref rC_below, .ref rC_above, .ref rC_unsureWords, .ref rC_unsureWorths])), (rC_kind, .inl (kC_kind, 18, .inl fC_kind)), (rC_weightSums, .inl (kC_weightSums, 18, .inl fC_weightSums)), (rC_toldWorths, .inl (kC_toldWorths, 18, .inl f_170))] := hD
        refine lv_aload_n hx hb dX1_endNode_64 rfl (lv_at hl 0 rfl) ?_
        refine lv_dup hx hb dX1_endNode_65 rfl ?_
        refine va_get (D := (dC, dI)) (ci := 1) (v := .int iC_unit) (C := RX1) (T := TX1) (N := 19) hx hb hts inX1 hown hK hP 0 rfl rfl 7 (by decide) (hts _ wd_67) (fun _ h9 => h9) rfl dX1_endNode_66 ?_
        have rg_iC_unit := fb_rng iC_unit
        refine lv_aload_n hx hb dX1_endNode_69 rfl (lv_at hl 0 rfl) ?_
        refine va_get (D := (dC, dI)) (ci := 1) (v := .ref rC_weightSums) (C := RX1) (T := TX1) (N := 19) hx hb hts inX1 hown hK hP 0 rfl rfl 12 (by decide) (hts _ wd_58) (fun _ h9 => h9) rfl dX1_endNode_70 ?_
        refine lv_aload_n hx hb dX1_endNode_73 rfl (lv_at hl 0 rfl) ?_
        refine va_get (D := (dC, dI)) (ci := 1) (v := .int iC_nodes) (C := RX1) (T := TX1) (N := 19) hx hb hts inX1 hown hK hP 0 rfl rfl 0 (by decide) (hts _ wd_215) (fun _ h9 => h9) rfl dX1_endNode_74 ?_
        refine va_iald hx hb hK hP 2 1 rfl rfl (ti_in rfl (by omega) (by omega)) dX1_endNode_77 ?_
        refine lv_topi (fun x_177 ex_177 => ?_)
        have rg_x_177 := fb_rng x_177
        have kx_177 : (fC_weightSums iC_nodes.toNatClampNeg).toInt = x_177.toInt := by rw [ex_177]
        refine lv_imul hx hb dX1_endNode_78 ?_
        refine lv_topi (fun x_178 ex_178 => ?_)
        have rg_x_178 := fb_rng x_178
        refine va_put (D := (dC, dI)) (ci := 1) (v := .int x_178) (ty := .int) (C := RX1) (T := TX1) (N := 19) hx hb hts inX1 tyX1 tyX1_ok nmX1 hown hK hP hD hS 0 rfl rfl 7 (by decide) (hts _ wd_67) (fun _ h9 => h9) rfl (by decide +kernel) rfl rfl (Nat.le_of_ble_eq_true rfl) dX1_endNode_79 (fun H locs hP hD hS => ?_)
        have hP : va_P (dC, dI) vwCl [(oC, .inr (1, [.int iC_nodes, .int iC_words, .int x_176, .int iC_unsures, .int iC_slips, .int iC_throneNode, .int iC_saidWorth, .int x_178, .ref rC_kind, .ref rC_parts, .ref rC_partNodes, .ref rC_weights, .ref rC_weightSums, .ref rC_toldWorths, .ref rC_steps, .ref rC_below, .ref rC_above, .ref rC_unsureWords, .ref rC_unsureWorths])), (rC_kind, .inl (kC_kind, 18, .inl fC_kind)), (rC_weightSums, .inl (kC_weightSums, 18, .inl fC_weightSums)), (rC_toldWorths, .inl (kC_toldWorths, 18, .inl f_170))] H := hP
        have hD : va_D A [(oC, .inr (1, [.int iC_nodes, .int iC_words, .int x_176, .int iC_unsures, .int iC_slips, .int iC_throneNode, .int iC_saidWorth, .int x_178, .ref rC_kind, .ref rC_parts, .ref rC_partNodes, .ref rC_weights, .ref rC_weightSums, .ref rC_toldWorths, .ref rC_steps, .ref rC_below, .ref rC_above, .ref rC_unsureWords, .ref rC_unsureWorths])), (rC_kind, .inl (kC_kind, 18, .inl fC_kind)), (rC_weightSums, .inl (kC_weightSums, 18, .inl fC_weightSums)), (rC_toldWorths, .inl (kC_toldWorths, 18, .inl f_170))] := hD
        refine lv_aload_n hx hb dX1_endNode_82 rfl (lv_at hl 0 rfl) ?_
        refine lv_dup hx hb dX1_endNode_83 rfl ?_
        refine va_get (D := (dC, dI)) (ci := 1) (v := .int iC_nodes) (C := RX1) (T := TX1) (N := 19) hx hb hts inX1 hown hK hP 0 rfl rfl 0 (by decide) (hts _ wd_215) (fun _ h9 => h9) rfl dX1_endNode_84 ?_
        refine lv_iconst (v := 1) hx hb dX1_endNode_87 (by decide) ?_
        refine lv_iadd hx hb dX1_endNode_88 ?_
        refine lv_topi (fun x_179 ex_179 => ?_)
        have vx_179 : x_179.toInt = iC_nodes.toInt + 1 := by have q := ti_add ex_179 rfl kc_1 (by omega) (by omega); omega
        refine va_put (D := (dC, dI)) (ci := 1) (v := .int x_179) (ty := .int) (C := RX1) (T := TX1) (N := 19) hx hb hts inX1 tyX1 tyX1_ok nmX1 hown hK hP hD hS 0 rfl rfl 0 (by decide) (hts _ wd_215) (fun _ h9 => h9) rfl (by decide +kernel) rfl rfl (Nat.le_of_ble_eq_true rfl) dX1_endNode_89 (fun H locs hP hD hS => ?_)
        have hP : va_P (dC, dI) vwCl [(oC, .inr (1, [.int x_179, .int iC_words, .int x_176, .int iC_unsures, .int iC_slips, .int iC_throneNode, .int iC_saidWorth, .int x_178, .ref rC_kind, .ref rC_parts, .ref rC_partNodes, .ref rC_weights, .ref rC_weightSums, .ref rC_toldWorths, .ref rC_steps, .ref rC_below, .ref rC_above, .ref rC_unsureWords, .ref rC_unsureWorths])), (rC_kind, .inl (kC_kind, 18, .inl fC_kind)), (rC_weightSums, .inl (kC_weightSums, 18, .inl fC_weightSums)), (rC_toldWorths, .inl (kC_toldWorths, 18, .inl f_170))] H := hP
        have hD : va_D A [(oC, .inr (1, [.int x_179, .int iC_words, .int x_176, .int iC_unsures, .int iC_slips, .int iC_throneNode, .int iC_saidWorth, .int x_178, .ref rC_kind, .ref rC_parts, .ref rC_partNodes, .ref rC_weights, .ref rC_weightSums, .ref rC_toldWorths, .ref rC_steps, .ref rC_below, .ref rC_above, .ref rC_unsureWords, .ref rC_unsureWorths])), (rC_kind, .inl (kC_kind, 18, .inl fC_kind)), (rC_weightSums, .inl (kC_weightSums, 18, .inl fC_weightSums)), (rC_toldWorths, .inl (kC_toldWorths, 18, .inl f_170))] := hD
        have hP9 := hP.sub (ws' := [(oC, .inr (1, [.int x_179, .int iC_words, .int x_176, .int iC_unsures, .int iC_slips, .int iC_throneNode, .int iC_saidWorth, .int x_178, .ref rC_kind, .ref rC_parts, .ref rC_partNodes, .ref rC_weights, .ref rC_weightSums, .ref rC_toldWorths, .ref rC_steps, .ref rC_below, .ref rC_above, .ref rC_unsureWords, .ref rC_unsureWorths])), (rC_kind, .inl (kC_kind, 18, .inl fC_kind)), (rC_weightSums, .inl (kC_weightSums, 18, .inl fC_weightSums)), (rC_toldWorths, .inl (kC_toldWorths, 18, .inl f_170))]) [0, 1, 2, 3] rfl
        have hD9 := hD.sub (ws' := [(oC, .inr (1, [.int x_179, .int iC_words, .int x_176, .int iC_unsures, .int iC_slips, .int iC_throneNode, .int iC_saidWorth, .int x_178, .ref rC_kind, .ref rC_parts, .ref rC_partNodes, .ref rC_weights, .ref rC_weightSums, .ref rC_toldWorths, .ref rC_steps, .ref rC_below, .ref rC_above, .ref rC_unsureWords, .ref rC_unsureWorths])), (rC_kind, .inl (kC_kind, 18, .inl fC_kind)), (rC_weightSums, .inl (kC_weightSums, 18, .inl fC_weightSums)), (rC_toldWorths, .inl (kC_toldWorths, 18, .inl f_170))]) [0, 1, 2, 3] (by decide) rfl
        have hK9 := hK.sub (tys' := [(kC_kind, .int), (kC_weightSums, .int), (kC_toldWorths, .int)]) [0, 1, 2] rfl
        exact W.vret hx hb hr (fun t ht hW => ⟨⟨0, rfl, trivial, ⟨x_179, iC_words, x_176, x_178, f_170, (by have q := vx_179; omega), Bw.to hP9 hD9 hK9 ht hW⟩⟩, hS.F ht⟩) hS.2.2 dX1_endNode_92
    · skip
      have gc_172 := ti_eq c_172 rfl kc_0
      refine lv_aload_n hx hb dX1_endNode_31 rfl (lv_at hl 0 rfl) ?_
      refine lv_dup hx hb dX1_endNode_32 rfl ?_
      refine va_get (D := (dC, dI)) (ci := 1) (v := .int iC_words) (C := RX1) (T := TX1) (N := 19) hx hb hts inX1 hown hK hP 0 rfl rfl 1 (by decide) (hts _ wd_216) (fun _ h9 => h9) rfl dX1_endNode_33 ?_
      have rg_iC_words := fb_rng iC_words
      refine lv_iconst (v := 1) hx hb dX1_endNode_36 (by decide) ?_
      refine lv_iadd hx hb dX1_endNode_37 ?_
      refine lv_topi (fun x_180 ex_180 => ?_)
      have rg_x_180 := fb_rng x_180
      refine va_put (D := (dC, dI)) (ci := 1) (v := .int x_180) (ty := .int) (C := RX1) (T := TX1) (N := 19) hx hb hts inX1 tyX1 tyX1_ok nmX1 hown hK hP hD hS 0 rfl rfl 1 (by decide) (hts _ wd_216) (fun _ h9 => h9) rfl (by decide +kernel) rfl rfl (Nat.le_of_ble_eq_true rfl) dX1_endNode_38 (fun H locs hP hD hS => ?_)
      have hP : va_P (dC, dI) vwCl [(oC, .inr (1, [.int iC_nodes, .int x_180, .int iC_chances, .int iC_unsures, .int iC_slips, .int iC_throneNode, .int iC_saidWorth, .int iC_unit, .ref rC_kind, .ref rC_parts, .ref rC_partNodes, .ref rC_weights, .ref rC_weightSums, .ref rC_toldWorths, .ref rC_steps, .ref rC_below, .ref rC_above, .ref rC_unsureWords, .ref rC_unsureWorths])), (rC_kind, .inl (kC_kind, 18, .inl fC_kind)), (rC_weightSums, .inl (kC_weightSums, 18, .inl fC_weightSums)), (rC_toldWorths, .inl (kC_toldWorths, 18, .inl f_170))] H := hP
      have hD : va_D A [(oC, .inr (1, [.int iC_nodes, .int x_180, .int iC_chances, .int iC_unsures, .int iC_slips, .int iC_throneNode, .int iC_saidWorth, .int iC_unit, .ref rC_kind, .ref rC_parts, .ref rC_partNodes, .ref rC_weights, .ref rC_weightSums, .ref rC_toldWorths, .ref rC_steps, .ref rC_below, .ref rC_above, .ref rC_unsureWords, .ref rC_unsureWorths])), (rC_kind, .inl (kC_kind, 18, .inl fC_kind)), (rC_weightSums, .inl (kC_weightSums, 18, .inl fC_weightSums)), (rC_toldWorths, .inl (kC_toldWorths, 18, .inl f_170))] := hD
      refine lv_aload_n hx hb dX1_endNode_41 rfl (lv_at hl 0 rfl) ?_
      refine va_get (D := (dC, dI)) (ci := 1) (v := .ref rC_kind) (C := RX1) (T := TX1) (N := 19) hx hb hts inX1 hown hK hP 0 rfl rfl 8 (by decide) (hts _ wd_54) (fun _ h9 => h9) rfl dX1_endNode_42 ?_
      refine lv_aload_n hx hb dX1_endNode_45 rfl (lv_at hl 0 rfl) ?_
      refine va_get (D := (dC, dI)) (ci := 1) (v := .int iC_nodes) (C := RX1) (T := TX1) (N := 19) hx hb hts inX1 hown hK hP 0 rfl rfl 0 (by decide) (hts _ wd_215) (fun _ h9 => h9) rfl dX1_endNode_46 ?_
      refine va_iald hx hb hK hP 1 0 rfl rfl (ti_in rfl (by omega) (by omega)) dX1_endNode_49 ?_
      refine lv_topi (fun x_181 ex_181 => ?_)
      have rg_x_181 := fb_rng x_181
      have kx_181 : (fC_kind iC_nodes.toNatClampNeg).toInt = x_181.toInt := by rw [ex_181]
      refine lv_iconst (v := 3) hx hb dX1_endNode_50 (by decide) ?_
      refine lv_icmp_ne (tgt := 82) hx hb dX1_endNode_51 (by decide) (fun c_182 => ?_) (fun c_182 => ?_)
      · skip
        have gc_182 := ti_ne c_182 rfl kc_3
        refine lv_aload_n hx hb dX1_endNode_82 rfl (lv_at hl 0 rfl) ?_
        refine lv_dup hx hb dX1_endNode_83 rfl ?_
        refine va_get (D := (dC, dI)) (ci := 1) (v := .int iC_nodes) (C := RX1) (T := TX1) (N := 19) hx hb hts inX1 hown hK hP 0 rfl rfl 0 (by decide) (hts _ wd_215) (fun _ h9 => h9) rfl dX1_endNode_84 ?_
        refine lv_iconst (v := 1) hx hb dX1_endNode_87 (by decide) ?_
        refine lv_iadd hx hb dX1_endNode_88 ?_
        refine lv_topi (fun x_183 ex_183 => ?_)
        have vx_183 : x_183.toInt = iC_nodes.toInt + 1 := by have q := ti_add ex_183 rfl kc_1 (by omega) (by omega); omega
        refine va_put (D := (dC, dI)) (ci := 1) (v := .int x_183) (ty := .int) (C := RX1) (T := TX1) (N := 19) hx hb hts inX1 tyX1 tyX1_ok nmX1 hown hK hP hD hS 0 rfl rfl 0 (by decide) (hts _ wd_215) (fun _ h9 => h9) rfl (by decide +kernel) rfl rfl (Nat.le_of_ble_eq_true rfl) dX1_endNode_89 (fun H locs hP hD hS => ?_)
        have hP : va_P (dC, dI) vwCl [(oC, .inr (1, [.int x_183, .int x_180, .int iC_chances, .int iC_unsures, .int iC_slips, .int iC_throneNode, .int iC_saidWorth, .int iC_unit, .ref rC_kind, .ref rC_parts, .ref rC_partNodes, .ref rC_weights, .ref rC_weightSums, .ref rC_toldWorths, .ref rC_steps, .ref rC_below, .ref rC_above, .ref rC_unsureWords, .ref rC_unsureWorths])), (rC_kind, .inl (kC_kind, 18, .inl fC_kind)), (rC_weightSums, .inl (kC_weightSums, 18, .inl fC_weightSums)), (rC_toldWorths, .inl (kC_toldWorths, 18, .inl f_170))] H := hP
        have hD : va_D A [(oC, .inr (1, [.int x_183, .int x_180, .int iC_chances, .int iC_unsures, .int iC_slips, .int iC_throneNode, .int iC_saidWorth, .int iC_unit, .ref rC_kind, .ref rC_parts, .ref rC_partNodes, .ref rC_weights, .ref rC_weightSums, .ref rC_toldWorths, .ref rC_steps, .ref rC_below, .ref rC_above, .ref rC_unsureWords, .ref rC_unsureWorths])), (rC_kind, .inl (kC_kind, 18, .inl fC_kind)), (rC_weightSums, .inl (kC_weightSums, 18, .inl fC_weightSums)), (rC_toldWorths, .inl (kC_toldWorths, 18, .inl f_170))] := hD
        have hP9 := hP.sub (ws' := [(oC, .inr (1, [.int x_183, .int x_180, .int iC_chances, .int iC_unsures, .int iC_slips, .int iC_throneNode, .int iC_saidWorth, .int iC_unit, .ref rC_kind, .ref rC_parts, .ref rC_partNodes, .ref rC_weights, .ref rC_weightSums, .ref rC_toldWorths, .ref rC_steps, .ref rC_below, .ref rC_above, .ref rC_unsureWords, .ref rC_unsureWorths])), (rC_kind, .inl (kC_kind, 18, .inl fC_kind)), (rC_weightSums, .inl (kC_weightSums, 18, .inl fC_weightSums)), (rC_toldWorths, .inl (kC_toldWorths, 18, .inl f_170))]) [0, 1, 2, 3] rfl
        have hD9 := hD.sub (ws' := [(oC, .inr (1, [.int x_183, .int x_180, .int iC_chances, .int iC_unsures, .int iC_slips, .int iC_throneNode, .int iC_saidWorth, .int iC_unit, .ref rC_kind, .ref rC_parts, .ref rC_partNodes, .ref rC_weights, .ref rC_weightSums, .ref rC_toldWorths, .ref rC_steps, .ref rC_below, .ref rC_above, .ref rC_unsureWords, .ref rC_unsureWorths])), (rC_kind, .inl (kC_kind, 18, .inl fC_kind)), (rC_weightSums, .inl (kC_weightSums, 18, .inl fC_weightSums)), (rC_toldWorths, .inl (kC_toldWorths, 18, .inl f_170))]) [0, 1, 2, 3] (by decide) rfl
        have hK9 := hK.sub (tys' := [(kC_kind, .int), (kC_weightSums, .int), (kC_toldWorths, .int)]) [0, 1, 2] rfl
        exact W.vret hx hb hr (fun t ht hW => ⟨⟨0, rfl, trivial, ⟨x_183, x_180, iC_chances, iC_unit, f_170, (by have q := vx_183; omega), Bw.to hP9 hD9 hK9 ht hW⟩⟩, hS.F ht⟩) hS.2.2 dX1_endNode_92
      · skip
        have gc_182 := ti_eq c_182 rfl kc_3
        exfalso; omega
set_option maxHeartbeats 4000000 in
set_option maxRecDepth 100000 in
theorem tX1_addUnsure (l : Launch) (dC : Nat → ClassId) (dI : Nat → Nat → Nat) (sz : Nat) (oC : Nat) (iC_nodes : Int32) (iC_words : Int32) (iC_chances : Int32) (iC_unsures : Int32) (iC_slips : Int32) (iC_throneNode : Int32) (iC_saidWorth : Int32) (iC_unit : Int32) (rC_kind : Nat) (rC_parts : Nat) (rC_partNodes : Nat) (rC_weights : Nat) (rC_weightSums : Nat) (rC_toldWorths : Nat) (rC_steps : Nat) (rC_below : Nat) (rC_above : Nat) (rC_unsureWords : Nat) (fC_unsureWords : Nat → Int32) (kC_unsureWords : ClassId) (rC_unsureWorths : Nat) (fC_unsureWorths : Nat → Int32) (kC_unsureWorths : ClassId) (p0 : Int32) (p1 : Int32) (b_iC_nodes : 0 ≤ iC_nodes.toInt ∧ iC_nodes.toInt ≤ 18) (b_iC_unsures : 0 ≤ iC_unsures.toInt ∧ iC_unsures.toInt ≤ 4) (b_iC_throneNode : (-1) ≤ iC_throneNode.toInt ∧ iC_throneNode.toInt ≤ 17) (a_fC_unsureWords : ∀ j : Nat, j < 4 → 0 ≤ (fC_unsureWords j).toInt ∧ (fC_unsureWords j).toInt ≤ 17) (hp0 : 0 ≤ p0.toInt ∧ p0.toInt ≤ 17) : Met l yX1_addUnsure (Cond.code yX1_addUnsure cX1_addUnsure 3 none :: wG) ({ frames := 0, cells := 0, slots := 0, locals := 0 }) (va_Pc [.ref oC, .int p0, .int p1] (Pw dC dI sz [(oC, .inr (1, [.int iC_nodes, .int iC_words, .int iC_chances, .int iC_unsures, .int iC_slips, .int iC_throneNode, .int iC_saidWorth, .int iC_unit, .ref rC_kind, .ref rC_parts, .ref rC_partNodes, .ref rC_weights, .ref rC_weightSums, .ref rC_toldWorths, .ref rC_steps, .ref rC_below, .ref rC_above, .ref rC_unsureWords, .ref rC_unsureWorths])), (rC_unsureWords, .inl (kC_unsureWords, 4, .inl fC_unsureWords)), (rC_unsureWorths, .inl (kC_unsureWorths, 4, .inl fC_unsureWorths))] [(kC_unsureWords, .int), (kC_unsureWorths, .int)])) (va_Qv (fun (_ : Nat) => True) (fun (_ : Nat) (t : State) => ∃ (niC_unsures : Int32) (nfC_unsureWords : Nat → Int32) (nfC_unsureWorths : Nat → Int32), (0 ≤ niC_unsures.toInt ∧ niC_unsures.toInt ≤ 4) ∧ (∀ j : Nat, j < 4 → 0 ≤ (nfC_unsureWords j).toInt ∧ (nfC_unsureWords j).toInt ≤ 17) ∧ Bw dC dI (va_A [(oC, .inr (1, [.int iC_nodes, .int iC_words, .int iC_chances, .int iC_unsures, .int iC_slips, .int iC_throneNode, .int iC_saidWorth, .int iC_unit, .ref rC_kind, .ref rC_parts, .ref rC_partNodes, .ref rC_weights, .ref rC_weightSums, .ref rC_toldWorths, .ref rC_steps, .ref rC_below, .ref rC_above, .ref rC_unsureWords, .ref rC_unsureWorths])), (rC_unsureWords, .inl (kC_unsureWords, 4, .inl fC_unsureWords)), (rC_unsureWorths, .inl (kC_unsureWorths, 4, .inl fC_unsureWorths))] sz) [(oC, .inr (1, [.int iC_nodes, .int iC_words, .int iC_chances, .int niC_unsures, .int iC_slips, .int iC_throneNode, .int iC_saidWorth, .int iC_unit, .ref rC_kind, .ref rC_parts, .ref rC_partNodes, .ref rC_weights, .ref rC_weightSums, .ref rC_toldWorths, .ref rC_steps, .ref rC_below, .ref rC_above, .ref rC_unsureWords, .ref rC_unsureWorths])), (rC_unsureWords, .inl (kC_unsureWords, 4, .inl nfC_unsureWords)), (rC_unsureWorths, .inl (kC_unsureWorths, 4, .inl nfC_unsureWorths))] [(kC_unsureWords, .int), (kC_unsureWorths, .int)] t) (va_A [(oC, .inr (1, [.int iC_nodes, .int iC_words, .int iC_chances, .int iC_unsures, .int iC_slips, .int iC_throneNode, .int iC_saidWorth, .int iC_unit, .ref rC_kind, .ref rC_parts, .ref rC_partNodes, .ref rC_weights, .ref rC_weightSums, .ref rC_toldWorths, .ref rC_steps, .ref rC_below, .ref rC_above, .ref rC_unsureWords, .ref rC_unsureWorths])), (rC_unsureWords, .inl (kC_unsureWords, 4, .inl fC_unsureWords)), (rC_unsureWorths, .inl (kC_unsureWorths, 4, .inl fC_unsureWorths))] sz)) 0 0 (va_A [(oC, .inr (1, [.int iC_nodes, .int iC_words, .int iC_chances, .int iC_unsures, .int iC_slips, .int iC_throneNode, .int iC_saidWorth, .int iC_unit, .ref rC_kind, .ref rC_parts, .ref rC_partNodes, .ref rC_weights, .ref rC_weightSums, .ref rC_toldWorths, .ref rC_steps, .ref rC_below, .ref rC_above, .ref rC_unsureWords, .ref rC_unsureWorths])), (rC_unsureWords, .inl (kC_unsureWords, 4, .inl fC_unsureWords)), (rC_unsureWorths, .inl (kC_unsureWorths, 4, .inl fC_unsureWorths))] sz) := by
  refine Met.ofW (cc := cX1_addUnsure) (maxL := 3) (ret := none) (by decide) rfl ?_
  intro p e s m args below meth c s₁ B hml hv
  obtain ⟨rfl, hsz, hP, hK, hD0, hE⟩ := hv
  have hx := B.exec
  have hb := B.bytes
  have hr := B.returns
  have hts : ∀ w ∈ wG, w.before ([.ref oC, .int p0, .int p1] : List Value).toArray s = true := fun w h => atoms_spec (ws := Cond.code yX1_addUnsure cX1_addUnsure 3 none :: wG) B.pre w (List.mem_cons_of_mem _ h)
  have hown : s.vm.findClass RX1 = some m.cls := findClass_of_methodNamed B.named
  have hlocks := B.notSynchronized
  subst hsz
  have hD := hD0.self (sz := s.heap.size)
  generalize hAe : va_A [(oC, .inr (1, [.int iC_nodes, .int iC_words, .int iC_chances, .int iC_unsures, .int iC_slips, .int iC_throneNode, .int iC_saidWorth, .int iC_unit, .ref rC_kind, .ref rC_parts, .ref rC_partNodes, .ref rC_weights, .ref rC_weightSums, .ref rC_toldWorths, .ref rC_steps, .ref rC_below, .ref rC_above, .ref rC_unsureWords, .ref rC_unsureWorths])), (rC_unsureWords, .inl (kC_unsureWords, 4, .inl fC_unsureWords)), (rC_unsureWorths, .inl (kC_unsureWorths, 4, .inl fC_unsureWorths))] s.heap.size = A at hD hE ⊢
  have hA : ∀ q : Nat, s.heap.size ≤ q → A q := fun q h => by rw [← hAe]; exact Or.inr h
  have hS : va_S A s.heap s.heap [] := va_S.rf
  have hl := lv_entry ([.ref oC, .int p0, .int p1]) (n := 3) (Nat.le_of_ble_eq_true rfl)
  rw [lg_entry_eq]
  generalize (lg_sl ([.ref oC, .int p0, .int p1]) ++ List.replicate (3 - (lg_sl ([.ref oC, .int p0, .int p1])).length) Slot.unset).toArray = ls at hl ⊢
  have hl : lv_has ls 3 [(0, .ref oC), (1, .int p0), (2, .int p1)] := hl
  have rg_p0 := fb_rng p0
  have rg_p1 := fb_rng p1
  refine lv_aload_n hx hb dX1_addUnsure_0 rfl (lv_at hl 0 rfl) ?_
  refine va_get (D := (dC, dI)) (ci := 1) (v := .int iC_unsures) (C := RX1) (T := TX1) (N := 19) hx hb hts inX1 hown hK hP 0 rfl rfl 3 (by decide) (hts _ wd_218) (fun _ h9 => h9) rfl dX1_addUnsure_1 ?_
  have rg_iC_unsures := fb_rng iC_unsures
  refine lv_iconst (v := 4) hx hb dX1_addUnsure_4 (by decide) ?_
  refine lv_icmp_ge (tgt := 38) hx hb dX1_addUnsure_5 (by decide) (fun c_188 => ?_) (fun c_188 => ?_)
  · skip
    have gc_188 := ti_le c_188 kc_4 rfl
    have hP9 := hP.sub (ws' := [(oC, .inr (1, [.int iC_nodes, .int iC_words, .int iC_chances, .int iC_unsures, .int iC_slips, .int iC_throneNode, .int iC_saidWorth, .int iC_unit, .ref rC_kind, .ref rC_parts, .ref rC_partNodes, .ref rC_weights, .ref rC_weightSums, .ref rC_toldWorths, .ref rC_steps, .ref rC_below, .ref rC_above, .ref rC_unsureWords, .ref rC_unsureWorths])), (rC_unsureWords, .inl (kC_unsureWords, 4, .inl fC_unsureWords)), (rC_unsureWorths, .inl (kC_unsureWorths, 4, .inl fC_unsureWorths))]) [0, 1, 2] rfl
    have hD9 := hD.sub (ws' := [(oC, .inr (1, [.int iC_nodes, .int iC_words, .int iC_chances, .int iC_unsures, .int iC_slips, .int iC_throneNode, .int iC_saidWorth, .int iC_unit, .ref rC_kind, .ref rC_parts, .ref rC_partNodes, .ref rC_weights, .ref rC_weightSums, .ref rC_toldWorths, .ref rC_steps, .ref rC_below, .ref rC_above, .ref rC_unsureWords, .ref rC_unsureWorths])), (rC_unsureWords, .inl (kC_unsureWords, 4, .inl fC_unsureWords)), (rC_unsureWorths, .inl (kC_unsureWorths, 4, .inl fC_unsureWorths))]) [0, 1, 2] (by decide) rfl
    have hK9 := hK.sub (tys' := [(kC_unsureWords, .int), (kC_unsureWorths, .int)]) [0, 1] rfl
    exact W.vret hx hb hr (fun t ht hW => ⟨⟨0, rfl, trivial, ⟨iC_unsures, fC_unsureWords, fC_unsureWorths, (by omega), a_fC_unsureWords, Bw.to hP9 hD9 hK9 ht hW⟩⟩, hS.F ht⟩) hS.2.2 dX1_addUnsure_38
  · skip
    have gc_188 := ti_nle c_188 kc_4 rfl
    refine lv_aload_n hx hb dX1_addUnsure_8 rfl (lv_at hl 0 rfl) ?_
    refine va_get (D := (dC, dI)) (ci := 1) (v := .ref rC_unsureWords) (C := RX1) (T := TX1) (N := 19) hx hb hts inX1 hown hK hP 0 rfl rfl 17 (by decide) (hts _ wd_63) (fun _ h9 => h9) rfl dX1_addUnsure_9 ?_
    refine lv_aload_n hx hb dX1_addUnsure_12 rfl (lv_at hl 0 rfl) ?_
    refine va_get (D := (dC, dI)) (ci := 1) (v := .int iC_unsures) (C := RX1) (T := TX1) (N := 19) hx hb hts inX1 hown hK hP 0 rfl rfl 3 (by decide) (hts _ wd_218) (fun _ h9 => h9) rfl dX1_addUnsure_13 ?_
    refine lv_iload_n hx hb dX1_addUnsure_16 rfl (lv_at hl 1 rfl) ?_
    refine vi_iast (lo := 0) (hi := 17) hx hb hK hP hD hS 1 0 rfl rfl (ti_in rfl (by omega) (by omega)) a_fC_unsureWords (by omega) dX1_addUnsure_17 (fun H locs f_189 a_f_189 hP hD hS => ?_)
    have hP : va_P (dC, dI) vwCl [(oC, .inr (1, [.int iC_nodes, .int iC_words, .int iC_chances, .int iC_unsures, .int iC_slips, .int iC_throneNode, .int iC_saidWorth, .int iC_unit, .ref rC_kind, .ref rC_parts, .ref rC_partNodes, .ref rC_weights, .ref rC_weightSums, .ref rC_toldWorths, .ref rC_steps, .ref rC_below, .ref rC_above, .ref rC_unsureWords, .ref rC_unsureWorths])), (rC_unsureWords, .inl (kC_unsureWords, 4, .inl f_189)), (rC_unsureWorths, .inl (kC_unsureWorths, 4, .inl fC_unsureWorths))] H := hP
    have hD : va_D A [(oC, .inr (1, [.int iC_nodes, .int iC_words, .int iC_chances, .int iC_unsures, .int iC_slips, .int iC_throneNode, .int iC_saidWorth, .int iC_unit, .ref rC_kind, .ref rC_parts, .ref rC_partNodes, .ref rC_weights, .ref rC_weightSums, .ref rC_toldWorths, .ref rC_steps, .ref rC_below, .ref rC_above, .ref rC_unsureWords, .ref rC_unsureWorths])), (rC_unsureWords, .inl (kC_unsureWords, 4, .inl f_189)), (rC_unsureWorths, .inl (kC_unsureWorths, 4, .inl fC_unsureWorths))] := hD
    refine lv_aload_n hx hb dX1_addUnsure_18 rfl (lv_at hl 0 rfl) ?_
    refine va_get (D := (dC, dI)) (ci := 1) (v := .ref rC_unsureWorths) (C := RX1) (T := TX1) (N := 19) hx hb hts inX1 hown hK hP 0 rfl rfl 18 (by decide) (hts _ wd_64) (fun _ h9 => h9) rfl dX1_addUnsure_19 ?_
    refine lv_aload_n hx hb dX1_addUnsure_22 rfl (lv_at hl 0 rfl) ?_
    refine va_get (D := (dC, dI)) (ci := 1) (v := .int iC_unsures) (C := RX1) (T := TX1) (N := 19) hx hb hts inX1 hown hK hP 0 rfl rfl 3 (by decide) (hts _ wd_218) (fun _ h9 => h9) rfl dX1_addUnsure_23 ?_
    refine lv_iload_n hx hb dX1_addUnsure_26 rfl (lv_at hl 2 rfl) ?_
    refine vz_iast hx hb hK hP hD hS 2 1 rfl rfl (ti_in rfl (by omega) (by omega)) dX1_addUnsure_27 (fun H locs f_190 hP hD hS => ?_)
    have hP : va_P (dC, dI) vwCl [(oC, .inr (1, [.int iC_nodes, .int iC_words, .int iC_chances, .int iC_unsures, .int iC_slips, .int iC_throneNode, .int iC_saidWorth, .int iC_unit, .ref rC_kind, .ref rC_parts, .ref rC_partNodes, .ref rC_weights, .ref rC_weightSums, .ref rC_toldWorths, .ref rC_steps, .ref rC_below, .ref rC_above, .ref rC_unsureWords, .ref rC_unsureWorths])), (rC_unsureWords, .inl (kC_unsureWords, 4, .inl f_189)), (rC_unsureWorths, .inl (kC_unsureWorths, 4, .inl f_190))] H := hP
    have hD : va_D A [(oC, .inr (1, [.int iC_nodes, .int iC_words, .int iC_chances, .int iC_unsures, .int iC_slips, .int iC_throneNode, .int iC_saidWorth, .int iC_unit, .ref rC_kind, .ref rC_parts, .ref rC_partNodes, .ref rC_weights, .ref rC_weightSums, .ref rC_toldWorths, .ref rC_steps, .ref rC_below, .ref rC_above, .ref rC_unsureWords, .ref rC_unsureWorths])), (rC_unsureWords, .inl (kC_unsureWords, 4, .inl f_189)), (rC_unsureWorths, .inl (kC_unsureWorths, 4, .inl f_190))] := hD
    refine lv_aload_n hx hb dX1_addUnsure_28 rfl (lv_at hl 0 rfl) ?_
    refine lv_dup hx hb dX1_addUnsure_29 rfl ?_
    refine va_get (D := (dC, dI)) (ci := 1) (v := .int iC_unsures) (C := RX1) (T := TX1) (N := 19) hx hb hts inX1 hown hK hP 0 rfl rfl 3 (by decide) (hts _ wd_218) (fun _ h9 => h9) rfl dX1_addUnsure_30 ?_
    refine lv_iconst (v := 1) hx hb dX1_addUnsure_33 (by decide) ?_
    refine lv_iadd hx hb dX1_addUnsure_34 ?_
    refine lv_topi (fun x_191 ex_191 => ?_)
    have vx_191 : x_191.toInt = iC_unsures.toInt + 1 := by have q := ti_add ex_191 rfl kc_1 (by omega) (by omega); omega
    refine va_put (D := (dC, dI)) (ci := 1) (v := .int x_191) (ty := .int) (C := RX1) (T := TX1) (N := 19) hx hb hts inX1 tyX1 tyX1_ok nmX1 hown hK hP hD hS 0 rfl rfl 3 (by decide) (hts _ wd_218) (fun _ h9 => h9) rfl (by decide +kernel) rfl rfl (Nat.le_of_ble_eq_true rfl) dX1_addUnsure_35 (fun H locs hP hD hS => ?_)
    have hP : va_P (dC, dI) vwCl [(oC, .inr (1, [.int iC_nodes, .int iC_words, .int iC_chances, .int x_191, .int iC_slips, .int iC_throneNode, .int iC_saidWorth, .int iC_unit, .ref rC_kind, .ref rC_parts, .ref rC_partNodes, .ref rC_weights, .ref rC_weightSums, .ref rC_toldWorths, .ref rC_steps, .ref rC_below, .ref rC_above, .ref rC_unsureWords, .ref rC_unsureWorths])), (rC_unsureWords, .inl (kC_unsureWords, 4, .inl f_189)), (rC_unsureWorths, .inl (kC_unsureWorths, 4, .inl f_190))] H := hP
    have hD : va_D A [(oC, .inr (1, [.int iC_nodes, .int iC_words, .int iC_chances, .int x_191, .int iC_slips, .int iC_throneNode, .int iC_saidWorth, .int iC_unit, .ref rC_kind, .ref rC_parts, .ref rC_partNodes, .ref rC_weights, .ref rC_weightSums, .ref rC_toldWorths, .ref rC_steps, .ref rC_below, .ref rC_above, .ref rC_unsureWords, .ref rC_unsureWorths])), (rC_unsureWords, .inl (kC_unsureWords, 4, .inl f_189)), (rC_unsureWorths, .inl (kC_unsureWorths, 4, .inl f_190))] := hD
    have hP9 := hP.sub (ws' := [(oC, .inr (1, [.int iC_nodes, .int iC_words, .int iC_chances, .int x_191, .int iC_slips, .int iC_throneNode, .int iC_saidWorth, .int iC_unit, .ref rC_kind, .ref rC_parts, .ref rC_partNodes, .ref rC_weights, .ref rC_weightSums, .ref rC_toldWorths, .ref rC_steps, .ref rC_below, .ref rC_above, .ref rC_unsureWords, .ref rC_unsureWorths])), (rC_unsureWords, .inl (kC_unsureWords, 4, .inl f_189)), (rC_unsureWorths, .inl (kC_unsureWorths, 4, .inl f_190))]) [0, 1, 2] rfl
    have hD9 := hD.sub (ws' := [(oC, .inr (1, [.int iC_nodes, .int iC_words, .int iC_chances, .int x_191, .int iC_slips, .int iC_throneNode, .int iC_saidWorth, .int iC_unit, .ref rC_kind, .ref rC_parts, .ref rC_partNodes, .ref rC_weights, .ref rC_weightSums, .ref rC_toldWorths, .ref rC_steps, .ref rC_below, .ref rC_above, .ref rC_unsureWords, .ref rC_unsureWorths])), (rC_unsureWords, .inl (kC_unsureWords, 4, .inl f_189)), (rC_unsureWorths, .inl (kC_unsureWorths, 4, .inl f_190))]) [0, 1, 2] (by decide) rfl
    have hK9 := hK.sub (tys' := [(kC_unsureWords, .int), (kC_unsureWorths, .int)]) [0, 1] rfl
    exact W.vret hx hb hr (fun t ht hW => ⟨⟨0, rfl, trivial, ⟨x_191, f_189, f_190, (by have q := vx_191; omega), a_f_189, Bw.to hP9 hD9 hK9 ht hW⟩⟩, hS.F ht⟩) hS.2.2 dX1_addUnsure_38
set_option maxHeartbeats 4000000 in
set_option maxRecDepth 100000 in
theorem tX1_unsureSets (l : Launch) (dC : Nat → ClassId) (dI : Nat → Nat → Nat) (sz : Nat) (oC : Nat) (iC_nodes : Int32) (iC_words : Int32) (iC_chances : Int32) (iC_unsures : Int32) (iC_slips : Int32) (iC_throneNode : Int32) (iC_saidWorth : Int32) (iC_unit : Int32) (rC_kind : Nat) (rC_parts : Nat) (rC_partNodes : Nat) (rC_weights : Nat) (rC_weightSums : Nat) (rC_toldWorths : Nat) (rC_steps : Nat) (rC_below : Nat) (rC_above : Nat) (rC_unsureWords : Nat) (rC_unsureWorths : Nat) (b_iC_nodes : 0 ≤ iC_nodes.toInt ∧ iC_nodes.toInt ≤ 18) (b_iC_unsures : 0 ≤ iC_unsures.toInt ∧ iC_unsures.toInt ≤ 4) (b_iC_throneNode : (-1) ≤ iC_throneNode.toInt ∧ iC_throneNode.toInt ≤ 17)  : Met l yX1_unsureSets (Cond.code yX1_unsureSets cX1_unsureSets 1 (some .int) :: wG) ({ frames := 0, cells := 0, slots := 0, locals := 0 }) (va_Pc [.ref oC] (Pw dC dI sz [(oC, .inr (1, [.int iC_nodes, .int iC_words, .int iC_chances, .int iC_unsures, .int iC_slips, .int iC_throneNode, .int iC_saidWorth, .int iC_unit, .ref rC_kind, .ref rC_parts, .ref rC_partNodes, .ref rC_weights, .ref rC_weightSums, .ref rC_toldWorths, .ref rC_steps, .ref rC_below, .ref rC_above, .ref rC_unsureWords, .ref rC_unsureWorths]))] [])) (va_Qi (fun (r : Int32) (_ : Nat) => True ∧ (1 ≤ r.toInt ∧ r.toInt ≤ 16)) (fun (_ : Nat) (t : State) => Bw dC dI (va_A [(oC, .inr (1, [.int iC_nodes, .int iC_words, .int iC_chances, .int iC_unsures, .int iC_slips, .int iC_throneNode, .int iC_saidWorth, .int iC_unit, .ref rC_kind, .ref rC_parts, .ref rC_partNodes, .ref rC_weights, .ref rC_weightSums, .ref rC_toldWorths, .ref rC_steps, .ref rC_below, .ref rC_above, .ref rC_unsureWords, .ref rC_unsureWorths]))] sz) [(oC, .inr (1, [.int iC_nodes, .int iC_words, .int iC_chances, .int iC_unsures, .int iC_slips, .int iC_throneNode, .int iC_saidWorth, .int iC_unit, .ref rC_kind, .ref rC_parts, .ref rC_partNodes, .ref rC_weights, .ref rC_weightSums, .ref rC_toldWorths, .ref rC_steps, .ref rC_below, .ref rC_above, .ref rC_unsureWords, .ref rC_unsureWorths]))] [] t) (va_A [(oC, .inr (1, [.int iC_nodes, .int iC_words, .int iC_chances, .int iC_unsures, .int iC_slips, .int iC_throneNode, .int iC_saidWorth, .int iC_unit, .ref rC_kind, .ref rC_parts, .ref rC_partNodes, .ref rC_weights, .ref rC_weightSums, .ref rC_toldWorths, .ref rC_steps, .ref rC_below, .ref rC_above, .ref rC_unsureWords, .ref rC_unsureWorths]))] sz)) 0 0 (va_A [(oC, .inr (1, [.int iC_nodes, .int iC_words, .int iC_chances, .int iC_unsures, .int iC_slips, .int iC_throneNode, .int iC_saidWorth, .int iC_unit, .ref rC_kind, .ref rC_parts, .ref rC_partNodes, .ref rC_weights, .ref rC_weightSums, .ref rC_toldWorths, .ref rC_steps, .ref rC_below, .ref rC_above, .ref rC_unsureWords, .ref rC_unsureWorths]))] sz) := by
  refine Met.ofW (cc := cX1_unsureSets) (maxL := 1) (ret := (some .int)) (by decide) rfl ?_
  intro p e s m args below meth c s₁ B hml hv
  obtain ⟨rfl, hsz, hP, hK, hD0, hE⟩ := hv
  have hx := B.exec
  have hb := B.bytes
  have hr := B.returns
  have hts : ∀ w ∈ wG, w.before ([.ref oC] : List Value).toArray s = true := fun w h => atoms_spec (ws := Cond.code yX1_unsureSets cX1_unsureSets 1 (some .int) :: wG) B.pre w (List.mem_cons_of_mem _ h)
  have hown : s.vm.findClass RX1 = some m.cls := findClass_of_methodNamed B.named
  have hlocks := B.notSynchronized
  subst hsz
  have hD := hD0.self (sz := s.heap.size)
  generalize hAe : va_A [(oC, .inr (1, [.int iC_nodes, .int iC_words, .int iC_chances, .int iC_unsures, .int iC_slips, .int iC_throneNode, .int iC_saidWorth, .int iC_unit, .ref rC_kind, .ref rC_parts, .ref rC_partNodes, .ref rC_weights, .ref rC_weightSums, .ref rC_toldWorths, .ref rC_steps, .ref rC_below, .ref rC_above, .ref rC_unsureWords, .ref rC_unsureWorths]))] s.heap.size = A at hD hE ⊢
  have hA : ∀ q : Nat, s.heap.size ≤ q → A q := fun q h => by rw [← hAe]; exact Or.inr h
  have hS : va_S A s.heap s.heap [] := va_S.rf
  have hl := lv_entry ([.ref oC]) (n := 1) (Nat.le_of_ble_eq_true rfl)
  rw [lg_entry_eq]
  generalize (lg_sl ([.ref oC]) ++ List.replicate (1 - (lg_sl ([.ref oC])).length) Slot.unset).toArray = ls at hl ⊢
  have hl : lv_has ls 1 [(0, .ref oC)] := hl
  refine lv_iconst (v := 1) hx hb dX1_unsureSets_0 (by decide) ?_
  refine lv_aload_n hx hb dX1_unsureSets_1 rfl (lv_at hl 0 rfl) ?_
  refine va_get (D := (dC, dI)) (ci := 1) (v := .int iC_unsures) (C := RX1) (T := TX1) (N := 19) hx hb hts inX1 hown hK hP 0 rfl rfl 3 (by decide) (hts _ wd_218) (fun _ h9 => h9) rfl dX1_unsureSets_2 ?_
  have rg_iC_unsures := fb_rng iC_unsures
  refine lv_ishl hx hb dX1_unsureSets_5 ?_
  refine lv_topi (fun x_193 ex_193 => ?_)
  have rg_x_193 := fb_rng x_193
  have qx_193 := ti_shl ex_193 rfl (by omega) (by omega)
  have hP9 := hP.sub (ws' := [(oC, .inr (1, [.int iC_nodes, .int iC_words, .int iC_chances, .int iC_unsures, .int iC_slips, .int iC_throneNode, .int iC_saidWorth, .int iC_unit, .ref rC_kind, .ref rC_parts, .ref rC_partNodes, .ref rC_weights, .ref rC_weightSums, .ref rC_toldWorths, .ref rC_steps, .ref rC_below, .ref rC_above, .ref rC_unsureWords, .ref rC_unsureWorths]))]) [0] rfl
  have hD9 := hD.sub (ws' := [(oC, .inr (1, [.int iC_nodes, .int iC_words, .int iC_chances, .int iC_unsures, .int iC_slips, .int iC_throneNode, .int iC_saidWorth, .int iC_unit, .ref rC_kind, .ref rC_parts, .ref rC_partNodes, .ref rC_weights, .ref rC_weightSums, .ref rC_toldWorths, .ref rC_steps, .ref rC_below, .ref rC_above, .ref rC_unsureWords, .ref rC_unsureWorths]))]) [0] (by decide) rfl
  have hK9 := hK.sub (tys' := []) [] rfl
  exact W.iret hx hb hr (fun t ht hW => ⟨⟨_, 0, rfl, ⟨trivial, (by omega)⟩, Bw.to hP9 hD9 hK9 ht hW⟩, hS.F ht⟩) hS.2.2 dX1_unsureSets_6
set_option maxHeartbeats 4000000 in
set_option maxRecDepth 100000 in
theorem tX1_placeOfPart (l : Launch) (dC : Nat → ClassId) (dI : Nat → Nat → Nat) (sz : Nat) (oC : Nat) (iC_nodes : Int32) (iC_words : Int32) (iC_chances : Int32) (iC_unsures : Int32) (iC_slips : Int32) (iC_throneNode : Int32) (iC_saidWorth : Int32) (iC_unit : Int32) (rC_kind : Nat) (rC_parts : Nat) (fC_parts : Nat → Int32) (kC_parts : ClassId) (rC_partNodes : Nat) (fC_partNodes : Nat → Int32) (kC_partNodes : ClassId) (rC_weights : Nat) (rC_weightSums : Nat) (rC_toldWorths : Nat) (rC_steps : Nat) (rC_below : Nat) (rC_above : Nat) (rC_unsureWords : Nat) (rC_unsureWorths : Nat) (p0 : Int32) (p1 : Int32) (b_iC_nodes : 0 ≤ iC_nodes.toInt ∧ iC_nodes.toInt ≤ 18) (b_iC_unsures : 0 ≤ iC_unsures.toInt ∧ iC_unsures.toInt ≤ 4) (b_iC_throneNode : (-1) ≤ iC_throneNode.toInt ∧ iC_throneNode.toInt ≤ 17) (a_fC_parts : ∀ j : Nat, j < 18 → 0 ≤ (fC_parts j).toInt ∧ (fC_parts j).toInt ≤ 4) (a_fC_partNodes : ∀ j : Nat, j < 72 → 0 ≤ (fC_partNodes j).toInt ∧ (fC_partNodes j).toInt ≤ 17)  : Met l yX1_placeOfPart (Cond.code yX1_placeOfPart cX1_placeOfPart 4 (some .int) :: wG) ({ frames := 0, cells := 0, slots := 0, locals := 0 }) (va_Pc [.ref oC, .int p0, .int p1] (Pw dC dI sz [(oC, .inr (1, [.int iC_nodes, .int iC_words, .int iC_chances, .int iC_unsures, .int iC_slips, .int iC_throneNode, .int iC_saidWorth, .int iC_unit, .ref rC_kind, .ref rC_parts, .ref rC_partNodes, .ref rC_weights, .ref rC_weightSums, .ref rC_toldWorths, .ref rC_steps, .ref rC_below, .ref rC_above, .ref rC_unsureWords, .ref rC_unsureWorths])), (rC_parts, .inl (kC_parts, 18, .inl fC_parts)), (rC_partNodes, .inl (kC_partNodes, 72, .inl fC_partNodes))] [(kC_parts, .int), (kC_partNodes, .int)])) (va_Qi (fun (r : Int32) (_ : Nat) => True ∧ ((-1) ≤ r.toInt ∧ r.toInt ≤ 3)) (fun (_ : Nat) (t : State) => Bw dC dI (va_A [(oC, .inr (1, [.int iC_nodes, .int iC_words, .int iC_chances, .int iC_unsures, .int iC_slips, .int iC_throneNode, .int iC_saidWorth, .int iC_unit, .ref rC_kind, .ref rC_parts, .ref rC_partNodes, .ref rC_weights, .ref rC_weightSums, .ref rC_toldWorths, .ref rC_steps, .ref rC_below, .ref rC_above, .ref rC_unsureWords, .ref rC_unsureWorths])), (rC_parts, .inl (kC_parts, 18, .inl fC_parts)), (rC_partNodes, .inl (kC_partNodes, 72, .inl fC_partNodes))] sz) [(oC, .inr (1, [.int iC_nodes, .int iC_words, .int iC_chances, .int iC_unsures, .int iC_slips, .int iC_throneNode, .int iC_saidWorth, .int iC_unit, .ref rC_kind, .ref rC_parts, .ref rC_partNodes, .ref rC_weights, .ref rC_weightSums, .ref rC_toldWorths, .ref rC_steps, .ref rC_below, .ref rC_above, .ref rC_unsureWords, .ref rC_unsureWorths])), (rC_parts, .inl (kC_parts, 18, .inl fC_parts)), (rC_partNodes, .inl (kC_partNodes, 72, .inl fC_partNodes))] [(kC_parts, .int), (kC_partNodes, .int)] t) (va_A [(oC, .inr (1, [.int iC_nodes, .int iC_words, .int iC_chances, .int iC_unsures, .int iC_slips, .int iC_throneNode, .int iC_saidWorth, .int iC_unit, .ref rC_kind, .ref rC_parts, .ref rC_partNodes, .ref rC_weights, .ref rC_weightSums, .ref rC_toldWorths, .ref rC_steps, .ref rC_below, .ref rC_above, .ref rC_unsureWords, .ref rC_unsureWorths])), (rC_parts, .inl (kC_parts, 18, .inl fC_parts)), (rC_partNodes, .inl (kC_partNodes, 72, .inl fC_partNodes))] sz)) 0 0 (va_A [(oC, .inr (1, [.int iC_nodes, .int iC_words, .int iC_chances, .int iC_unsures, .int iC_slips, .int iC_throneNode, .int iC_saidWorth, .int iC_unit, .ref rC_kind, .ref rC_parts, .ref rC_partNodes, .ref rC_weights, .ref rC_weightSums, .ref rC_toldWorths, .ref rC_steps, .ref rC_below, .ref rC_above, .ref rC_unsureWords, .ref rC_unsureWorths])), (rC_parts, .inl (kC_parts, 18, .inl fC_parts)), (rC_partNodes, .inl (kC_partNodes, 72, .inl fC_partNodes))] sz) := by
  refine Met.ofW (cc := cX1_placeOfPart) (maxL := 4) (ret := (some .int)) (by decide) rfl ?_
  intro p e s m args below meth c s₁ B hml hv
  obtain ⟨rfl, hsz, hP, hK, hD0, hE⟩ := hv
  have hx := B.exec
  have hb := B.bytes
  have hr := B.returns
  have hts : ∀ w ∈ wG, w.before ([.ref oC, .int p0, .int p1] : List Value).toArray s = true := fun w h => atoms_spec (ws := Cond.code yX1_placeOfPart cX1_placeOfPart 4 (some .int) :: wG) B.pre w (List.mem_cons_of_mem _ h)
  have hown : s.vm.findClass RX1 = some m.cls := findClass_of_methodNamed B.named
  have hlocks := B.notSynchronized
  subst hsz
  have hD := hD0.self (sz := s.heap.size)
  generalize hAe : va_A [(oC, .inr (1, [.int iC_nodes, .int iC_words, .int iC_chances, .int iC_unsures, .int iC_slips, .int iC_throneNode, .int iC_saidWorth, .int iC_unit, .ref rC_kind, .ref rC_parts, .ref rC_partNodes, .ref rC_weights, .ref rC_weightSums, .ref rC_toldWorths, .ref rC_steps, .ref rC_below, .ref rC_above, .ref rC_unsureWords, .ref rC_unsureWorths])), (rC_parts, .inl (kC_parts, 18, .inl fC_parts)), (rC_partNodes, .inl (kC_partNodes, 72, .inl fC_partNodes))] s.heap.size = A at hD hE ⊢
  have hA : ∀ q : Nat, s.heap.size ≤ q → A q := fun q h => by rw [← hAe]; exact Or.inr h
  have hS : va_S A s.heap s.heap [] := va_S.rf
  have hl := lv_entry ([.ref oC, .int p0, .int p1]) (n := 4) (Nat.le_of_ble_eq_true rfl)
  rw [lg_entry_eq]
  generalize (lg_sl ([.ref oC, .int p0, .int p1]) ++ List.replicate (4 - (lg_sl ([.ref oC, .int p0, .int p1])).length) Slot.unset).toArray = ls at hl ⊢
  have hl : lv_has ls 4 [(0, .ref oC), (1, .int p0), (2, .int p1)] := hl
  have rg_p0 := fb_rng p0
  have rg_p1 := fb_rng p1
  refine lv_iload_n hx hb dX1_placeOfPart_0 rfl (lv_at hl 1 rfl) ?_
  refine lv_if_lt (tgt := 10) hx hb dX1_placeOfPart_1 (by decide) (fun c_205 => ?_) (fun c_205 => ?_)
  · skip
    have gc_205 := ti_lt c_205 rfl kc_0
    refine lv_iconst (v := (-1)) hx hb dX1_placeOfPart_10 (by decide) ?_
    have hP9 := hP.sub (ws' := [(oC, .inr (1, [.int iC_nodes, .int iC_words, .int iC_chances, .int iC_unsures, .int iC_slips, .int iC_throneNode, .int iC_saidWorth, .int iC_unit, .ref rC_kind, .ref rC_parts, .ref rC_partNodes, .ref rC_weights, .ref rC_weightSums, .ref rC_toldWorths, .ref rC_steps, .ref rC_below, .ref rC_above, .ref rC_unsureWords, .ref rC_unsureWorths])), (rC_parts, .inl (kC_parts, 18, .inl fC_parts)), (rC_partNodes, .inl (kC_partNodes, 72, .inl fC_partNodes))]) [0, 1, 2] rfl
    have hD9 := hD.sub (ws' := [(oC, .inr (1, [.int iC_nodes, .int iC_words, .int iC_chances, .int iC_unsures, .int iC_slips, .int iC_throneNode, .int iC_saidWorth, .int iC_unit, .ref rC_kind, .ref rC_parts, .ref rC_partNodes, .ref rC_weights, .ref rC_weightSums, .ref rC_toldWorths, .ref rC_steps, .ref rC_below, .ref rC_above, .ref rC_unsureWords, .ref rC_unsureWorths])), (rC_parts, .inl (kC_parts, 18, .inl fC_parts)), (rC_partNodes, .inl (kC_partNodes, 72, .inl fC_partNodes))]) [0, 1, 2] (by decide) rfl
    have hK9 := hK.sub (tys' := [(kC_parts, .int), (kC_partNodes, .int)]) [0, 1] rfl
    exact W.iret hx hb hr (fun t ht hW => ⟨⟨_, 0, rfl, ⟨trivial, (by decide)⟩, Bw.to hP9 hD9 hK9 ht hW⟩, hS.F ht⟩) hS.2.2 dX1_placeOfPart_11
  · skip
    have gc_205 := ti_nlt c_205 rfl kc_0
    refine lv_iload_n hx hb dX1_placeOfPart_4 rfl (lv_at hl 1 rfl) ?_
    refine lv_bipush (v := 18) hx hb dX1_placeOfPart_5 (by decide) ?_
    refine lv_icmp_lt (tgt := 12) hx hb dX1_placeOfPart_7 (by decide) (fun c_206 => ?_) (fun c_206 => ?_)
    · skip
      have gc_206 := ti_lt c_206 rfl kc_18
      refine lv_iconst (v := 0) hx hb dX1_placeOfPart_12 (by decide) ?_
      refine lv_istore_n (lv' := [(3, .int 0), (0, .ref oC), (1, .int p0), (2, .int p1)]) hx hb dX1_placeOfPart_13 rfl hl (by decide) rfl (fun ls hl => ?_)
      have hl := lv_sub hl (l' := [(3, .int 0), (0, .ref oC), (1, .int p0), (2, .int p1)]) [0, 1, 2, 3] rfl
      have key_n_208 : ∀ (n_208 : Nat) (z_207 : Int32) (H : Heap) (locs : List Loc) (ls : Array Slot), (0 ≤ z_207.toInt ∧ z_207.toInt ≤ 2147483647) → (2147483647 - z_207.toInt).toNat < n_208 → va_P (dC, dI) vwCl [(oC, .inr (1, [.int iC_nodes, .int iC_words, .int iC_chances, .int iC_unsures, .int iC_slips, .int iC_throneNode, .int iC_saidWorth, .int iC_unit, .ref rC_kind, .ref rC_parts, .ref rC_partNodes, .ref rC_weights, .ref rC_weightSums, .ref rC_toldWorths, .ref rC_steps, .ref rC_below, .ref rC_above, .ref rC_unsureWords, .ref rC_unsureWorths])), (rC_parts, .inl (kC_parts, 18, .inl fC_parts)), (rC_partNodes, .inl (kC_partNodes, 72, .inl fC_partNodes))] H → va_D A [(oC, .inr (1, [.int iC_nodes, .int iC_words, .int iC_chances, .int iC_unsures, .int iC_slips, .int iC_throneNode, .int iC_saidWorth, .int iC_unit, .ref rC_kind, .ref rC_parts, .ref rC_partNodes, .ref rC_weights, .ref rC_weightSums, .ref rC_toldWorths, .ref rC_steps, .ref rC_below, .ref rC_above, .ref rC_unsureWords, .ref rC_unsureWorths])), (rC_parts, .inl (kC_parts, 18, .inl fC_parts)), (rC_partNodes, .inl (kC_partNodes, 72, .inl fC_partNodes))] → va_S A s.heap H locs → lv_has ls 4 [(3, .int z_207), (0, .ref oC), (1, .int p0), (2, .int p1)] → W p l e (headSpec (Cond.code yX1_placeOfPart cX1_placeOfPart 4 (some .int) :: wG) ({ frames := 0, cells := 0, slots := 0, locals := 0 })).room s m ([.ref oC, .int p0, .int p1] : List Value).toArray below meth c H locs 0 0 (MQ below (va_Qi (fun (r : Int32) (_ : Nat) => True ∧ ((-1) ≤ r.toInt ∧ r.toInt ≤ 3)) (fun (_ : Nat) (t : State) => Bw dC dI A [(oC, .inr (1, [.int iC_nodes, .int iC_words, .int iC_chances, .int iC_unsures, .int iC_slips, .int iC_throneNode, .int iC_saidWorth, .int iC_unit, .ref rC_kind, .ref rC_parts, .ref rC_partNodes, .ref rC_weights, .ref rC_weightSums, .ref rC_toldWorths, .ref rC_steps, .ref rC_below, .ref rC_above, .ref rC_unsureWords, .ref rC_unsureWorths])), (rC_parts, .inl (kC_parts, 18, .inl fC_parts)), (rC_partNodes, .inl (kC_partNodes, 72, .inl fC_partNodes))] [(kC_parts, .int), (kC_partNodes, .int)] t) A) ([.ref oC, .int p0, .int p1] : List Value).toArray s 0 0 A) (F0 m 14 ls []) := by
        intro n_208
        induction n_208 with
        | zero => intro z_207 H locs ls hi0_n_208 hm; exact absurd hm (by omega)
        | succ n_208 ih_n_208 =>
          intro z_207 H locs ls hi0_n_208 hm hP hD hS hl
          have rg_z_207 := fb_rng z_207
          refine lv_iload_n hx hb dX1_placeOfPart_14 rfl (lv_at hl 0 rfl) ?_
          refine lv_aload_n hx hb dX1_placeOfPart_15 rfl (lv_at hl 1 rfl) ?_
          refine va_get (D := (dC, dI)) (ci := 1) (v := .ref rC_parts) (C := RX1) (T := TX1) (N := 19) hx hb hts inX1 hown hK hP 0 rfl rfl 9 (by decide) (hts _ wd_55) (fun _ h9 => h9) rfl dX1_placeOfPart_16 ?_
          refine lv_iload_n hx hb dX1_placeOfPart_19 rfl (lv_at hl 2 rfl) ?_
          refine va_iald hx hb hK hP 1 0 rfl rfl (ti_in rfl (by omega) (by omega)) dX1_placeOfPart_20 ?_
          refine lv_topi (fun x_209 ex_209 => ?_)
          have rg_x_209 := fb_rng x_209
          have kx_209 : (fC_parts p0.toNatClampNeg).toInt = x_209.toInt := by rw [ex_209]
          have ux_209 := a_fC_parts _ (by have q := ti_cl (x := p0) rfl (by omega); omega : p0.toNatClampNeg < 18)
          rw [show fC_parts p0.toNatClampNeg = x_209 from ex_209.symm] at ux_209
          refine lv_icmp_ge (tgt := 46) hx hb dX1_placeOfPart_21 (by decide) (fun c_210 => ?_) (fun c_210 => ?_)
          · skip
            have gc_210 := ti_le c_210 rfl rfl
            refine lv_iconst (v := (-1)) hx hb dX1_placeOfPart_46 (by decide) ?_
            have hP9 := hP.sub (ws' := [(oC, .inr (1, [.int iC_nodes, .int iC_words, .int iC_chances, .int iC_unsures, .int iC_slips, .int iC_throneNode, .int iC_saidWorth, .int iC_unit, .ref rC_kind, .ref rC_parts, .ref rC_partNodes, .ref rC_weights, .ref rC_weightSums, .ref rC_toldWorths, .ref rC_steps, .ref rC_below, .ref rC_above, .ref rC_unsureWords, .ref rC_unsureWorths])), (rC_parts, .inl (kC_parts, 18, .inl fC_parts)), (rC_partNodes, .inl (kC_partNodes, 72, .inl fC_partNodes))]) [0, 1, 2] rfl
            have hD9 := hD.sub (ws' := [(oC, .inr (1, [.int iC_nodes, .int iC_words, .int iC_chances, .int iC_unsures, .int iC_slips, .int iC_throneNode, .int iC_saidWorth, .int iC_unit, .ref rC_kind, .ref rC_parts, .ref rC_partNodes, .ref rC_weights, .ref rC_weightSums, .ref rC_toldWorths, .ref rC_steps, .ref rC_below, .ref rC_above, .ref rC_unsureWords, .ref rC_unsureWorths])), (rC_parts, .inl (kC_parts, 18, .inl fC_parts)), (rC_partNodes, .inl (kC_partNodes, 72, .inl fC_partNodes))]) [0, 1, 2] (by decide) rfl
            have hK9 := hK.sub (tys' := [(kC_parts, .int), (kC_partNodes, .int)]) [0, 1] rfl
            exact W.iret hx hb hr (fun t ht hW => ⟨⟨_, 0, rfl, ⟨trivial, (by decide)⟩, Bw.to hP9 hD9 hK9 ht hW⟩, hS.F ht⟩) hS.2.2 dX1_placeOfPart_47
          · skip
            have gc_210 := ti_nle c_210 rfl rfl
            refine lv_aload_n hx hb dX1_placeOfPart_24 rfl (lv_at hl 1 rfl) ?_
            refine va_get (D := (dC, dI)) (ci := 1) (v := .ref rC_partNodes) (C := RX1) (T := TX1) (N := 19) hx hb hts inX1 hown hK hP 0 rfl rfl 10 (by decide) (hts _ wd_56) (fun _ h9 => h9) rfl dX1_placeOfPart_25 ?_
            refine lv_iload_n hx hb dX1_placeOfPart_28 rfl (lv_at hl 2 rfl) ?_
            refine lv_iconst (v := 4) hx hb dX1_placeOfPart_29 (by decide) ?_
            refine lv_imul hx hb dX1_placeOfPart_30 ?_
            refine lv_topi (fun x_211 ex_211 => ?_)
            have vx_211 : x_211.toInt = 4 * p0.toInt := by have q := ti_mul ex_211 rfl kc_4 (by omega) (by omega); omega
            refine lv_iload_n hx hb dX1_placeOfPart_31 rfl (lv_at hl 0 rfl) ?_
            refine lv_iadd hx hb dX1_placeOfPart_32 ?_
            refine lv_topi (fun x_212 ex_212 => ?_)
            have vx_212 : x_212.toInt = 4 * p0.toInt + z_207.toInt := by have q := ti_add ex_212 vx_211 rfl (by omega) (by omega); omega
            refine va_iald hx hb hK hP 2 1 rfl rfl (ti_in vx_212 (by omega) (by omega)) dX1_placeOfPart_33 ?_
            refine lv_topi (fun x_213 ex_213 => ?_)
            have rg_x_213 := fb_rng x_213
            have kx_213 : (fC_partNodes x_212.toNatClampNeg).toInt = x_213.toInt := by rw [ex_213]
            have ux_213 := a_fC_partNodes _ (by have q := ti_cl (x := x_212) vx_212 (by omega); omega : x_212.toNatClampNeg < 72)
            rw [show fC_partNodes x_212.toNatClampNeg = x_213 from ex_213.symm] at ux_213
            refine lv_iload_n hx hb dX1_placeOfPart_34 rfl (lv_at hl 3 rfl) ?_
            refine lv_icmp_ne (tgt := 40) hx hb dX1_placeOfPart_35 (by decide) (fun c_214 => ?_) (fun c_214 => ?_)
            · skip
              have gc_214 := ti_ne c_214 rfl rfl
              obtain ⟨x_215, ex_215⟩ : ∃ z : Int32, z = z_207 + Int32.ofInt 1 := ⟨_, rfl⟩
              have vx_215 : x_215.toInt = z_207.toInt + 1 := by have q := ti_add (y := 1) ex_215 rfl kc_1 (by omega) (by omega); omega
              refine lv_iinc (v := x_215) (lv' := [(3, .int x_215), (0, .ref oC), (1, .int p0), (2, .int p1)]) hx hb dX1_placeOfPart_40 hl (k := 0) rfl ex_215.symm (by decide) rfl (fun ls hl => ?_)
              refine lv_goto (tgt := 14) hx hb dX1_placeOfPart_43 (by decide) ?_
              exact ih_n_208 x_215 _ _ _  (by first | omega | decide | assumption) (by omega) (hP.sub [0, 1, 2] rfl) (hD.sub [0, 1, 2] (by decide) rfl) hS (lv_sub hl [0, 1, 2, 3] rfl)
            · skip
              have gc_214 := ti_eq c_214 rfl rfl
              refine lv_iload_n hx hb dX1_placeOfPart_38 rfl (lv_at hl 0 rfl) ?_
              have hP9 := hP.sub (ws' := [(oC, .inr (1, [.int iC_nodes, .int iC_words, .int iC_chances, .int iC_unsures, .int iC_slips, .int iC_throneNode, .int iC_saidWorth, .int iC_unit, .ref rC_kind, .ref rC_parts, .ref rC_partNodes, .ref rC_weights, .ref rC_weightSums, .ref rC_toldWorths, .ref rC_steps, .ref rC_below, .ref rC_above, .ref rC_unsureWords, .ref rC_unsureWorths])), (rC_parts, .inl (kC_parts, 18, .inl fC_parts)), (rC_partNodes, .inl (kC_partNodes, 72, .inl fC_partNodes))]) [0, 1, 2] rfl
              have hD9 := hD.sub (ws' := [(oC, .inr (1, [.int iC_nodes, .int iC_words, .int iC_chances, .int iC_unsures, .int iC_slips, .int iC_throneNode, .int iC_saidWorth, .int iC_unit, .ref rC_kind, .ref rC_parts, .ref rC_partNodes, .ref rC_weights, .ref rC_weightSums, .ref rC_toldWorths, .ref rC_steps, .ref rC_below, .ref rC_above, .ref rC_unsureWords, .ref rC_unsureWorths])), (rC_parts, .inl (kC_parts, 18, .inl fC_parts)), (rC_partNodes, .inl (kC_partNodes, 72, .inl fC_partNodes))]) [0, 1, 2] (by decide) rfl
              have hK9 := hK.sub (tys' := [(kC_parts, .int), (kC_partNodes, .int)]) [0, 1] rfl
              exact W.iret hx hb hr (fun t ht hW => ⟨⟨_, 0, rfl, ⟨trivial, (by omega)⟩, Bw.to hP9 hD9 hK9 ht hW⟩, hS.F ht⟩) hS.2.2 dX1_placeOfPart_39
      exact key_n_208 ((2147483647 - (0 : Int32).toInt).toNat + 1) 0 _ _ _  (by first | omega | decide | assumption | (have q0 := kc_0; have q1 := kc_1; omega)) (by omega) hP hD hS hl
    · skip
      have gc_206 := ti_nlt c_206 rfl kc_18
      refine lv_iconst (v := (-1)) hx hb dX1_placeOfPart_10 (by decide) ?_
      have hP9 := hP.sub (ws' := [(oC, .inr (1, [.int iC_nodes, .int iC_words, .int iC_chances, .int iC_unsures, .int iC_slips, .int iC_throneNode, .int iC_saidWorth, .int iC_unit, .ref rC_kind, .ref rC_parts, .ref rC_partNodes, .ref rC_weights, .ref rC_weightSums, .ref rC_toldWorths, .ref rC_steps, .ref rC_below, .ref rC_above, .ref rC_unsureWords, .ref rC_unsureWorths])), (rC_parts, .inl (kC_parts, 18, .inl fC_parts)), (rC_partNodes, .inl (kC_partNodes, 72, .inl fC_partNodes))]) [0, 1, 2] rfl
      have hD9 := hD.sub (ws' := [(oC, .inr (1, [.int iC_nodes, .int iC_words, .int iC_chances, .int iC_unsures, .int iC_slips, .int iC_throneNode, .int iC_saidWorth, .int iC_unit, .ref rC_kind, .ref rC_parts, .ref rC_partNodes, .ref rC_weights, .ref rC_weightSums, .ref rC_toldWorths, .ref rC_steps, .ref rC_below, .ref rC_above, .ref rC_unsureWords, .ref rC_unsureWorths])), (rC_parts, .inl (kC_parts, 18, .inl fC_parts)), (rC_partNodes, .inl (kC_partNodes, 72, .inl fC_partNodes))]) [0, 1, 2] (by decide) rfl
      have hK9 := hK.sub (tys' := [(kC_parts, .int), (kC_partNodes, .int)]) [0, 1] rfl
      exact W.iret hx hb hr (fun t ht hW => ⟨⟨_, 0, rfl, ⟨trivial, (by decide)⟩, Bw.to hP9 hD9 hK9 ht hW⟩, hS.F ht⟩) hS.2.2 dX1_placeOfPart_11
set_option maxHeartbeats 4000000 in
set_option maxRecDepth 100000 in
theorem tX1_isUnsure (l : Launch) (dC : Nat → ClassId) (dI : Nat → Nat → Nat) (sz : Nat) (oC : Nat) (iC_nodes : Int32) (iC_words : Int32) (iC_chances : Int32) (iC_unsures : Int32) (iC_slips : Int32) (iC_throneNode : Int32) (iC_saidWorth : Int32) (iC_unit : Int32) (rC_kind : Nat) (rC_parts : Nat) (rC_partNodes : Nat) (rC_weights : Nat) (rC_weightSums : Nat) (rC_toldWorths : Nat) (rC_steps : Nat) (rC_below : Nat) (rC_above : Nat) (rC_unsureWords : Nat) (fC_unsureWords : Nat → Int32) (kC_unsureWords : ClassId) (rC_unsureWorths : Nat) (p0 : Int32) (b_iC_nodes : 0 ≤ iC_nodes.toInt ∧ iC_nodes.toInt ≤ 18) (b_iC_unsures : 0 ≤ iC_unsures.toInt ∧ iC_unsures.toInt ≤ 4) (b_iC_throneNode : (-1) ≤ iC_throneNode.toInt ∧ iC_throneNode.toInt ≤ 17) (a_fC_unsureWords : ∀ j : Nat, j < 4 → 0 ≤ (fC_unsureWords j).toInt ∧ (fC_unsureWords j).toInt ≤ 17)  : Met l yX1_isUnsure (Cond.code yX1_isUnsure cX1_isUnsure 3 (some .boolean) :: wG) ({ frames := 0, cells := 0, slots := 0, locals := 0 }) (va_Pc [.ref oC, .int p0] (Pw dC dI sz [(oC, .inr (1, [.int iC_nodes, .int iC_words, .int iC_chances, .int iC_unsures, .int iC_slips, .int iC_throneNode, .int iC_saidWorth, .int iC_unit, .ref rC_kind, .ref rC_parts, .ref rC_partNodes, .ref rC_weights, .ref rC_weightSums, .ref rC_toldWorths, .ref rC_steps, .ref rC_below, .ref rC_above, .ref rC_unsureWords, .ref rC_unsureWorths])), (rC_unsureWords, .inl (kC_unsureWords, 4, .inl fC_unsureWords))] [(kC_unsureWords, .int)])) (va_Qi (fun (r : Int32) (_ : Nat) => (r = 0 ∨ r = 1) ∧ True) (fun (_ : Nat) (t : State) => Bw dC dI (va_A [(oC, .inr (1, [.int iC_nodes, .int iC_words, .int iC_chances, .int iC_unsures, .int iC_slips, .int iC_throneNode, .int iC_saidWorth, .int iC_unit, .ref rC_kind, .ref rC_parts, .ref rC_partNodes, .ref rC_weights, .ref rC_weightSums, .ref rC_toldWorths, .ref rC_steps, .ref rC_below, .ref rC_above, .ref rC_unsureWords, .ref rC_unsureWorths])), (rC_unsureWords, .inl (kC_unsureWords, 4, .inl fC_unsureWords))] sz) [(oC, .inr (1, [.int iC_nodes, .int iC_words, .int iC_chances, .int iC_unsures, .int iC_slips, .int iC_throneNode, .int iC_saidWorth, .int iC_unit, .ref rC_kind, .ref rC_parts, .ref rC_partNodes, .ref rC_weights, .ref rC_weightSums, .ref rC_toldWorths, .ref rC_steps, .ref rC_below, .ref rC_above, .ref rC_unsureWords, .ref rC_unsureWorths])), (rC_unsureWords, .inl (kC_unsureWords, 4, .inl fC_unsureWords))] [(kC_unsureWords, .int)] t) (va_A [(oC, .inr (1, [.int iC_nodes, .int iC_words, .int iC_chances, .int iC_unsures, .int iC_slips, .int iC_throneNode, .int iC_saidWorth, .int iC_unit, .ref rC_kind, .ref rC_parts, .ref rC_partNodes, .ref rC_weights, .ref rC_weightSums, .ref rC_toldWorths, .ref rC_steps, .ref rC_below, .ref rC_above, .ref rC_unsureWords, .ref rC_unsureWorths])), (rC_unsureWords, .inl (kC_unsureWords, 4, .inl fC_unsureWords))] sz)) 0 0 (va_A [(oC, .inr (1, [.int iC_nodes, .int iC_words, .int iC_chances, .int iC_unsures, .int iC_slips, .int iC_throneNode, .int iC_saidWorth, .int iC_unit, .ref rC_kind, .ref rC_parts, .ref rC_partNodes, .ref rC_weights, .ref rC_weightSums, .ref rC_toldWorths, .ref rC_steps, .ref rC_below, .ref rC_above, .ref rC_unsureWords, .ref rC_unsureWorths])), (rC_unsureWords, .inl (kC_unsureWords, 4, .inl fC_unsureWords))] sz) := by
  refine Met.ofW (cc := cX1_isUnsure) (maxL := 3) (ret := (some .boolean)) (by decide) rfl ?_
  intro p e s m args below meth c s₁ B hml hv
  obtain ⟨rfl, hsz, hP, hK, hD0, hE⟩ := hv
  have hx := B.exec
  have hb := B.bytes
  have hr := B.returns
  have hts : ∀ w ∈ wG, w.before ([.ref oC, .int p0] : List Value).toArray s = true := fun w h => atoms_spec (ws := Cond.code yX1_isUnsure cX1_isUnsure 3 (some .boolean) :: wG) B.pre w (List.mem_cons_of_mem _ h)
  have hown : s.vm.findClass RX1 = some m.cls := findClass_of_methodNamed B.named
  have hlocks := B.notSynchronized
  subst hsz
  have hD := hD0.self (sz := s.heap.size)
  generalize hAe : va_A [(oC, .inr (1, [.int iC_nodes, .int iC_words, .int iC_chances, .int iC_unsures, .int iC_slips, .int iC_throneNode, .int iC_saidWorth, .int iC_unit, .ref rC_kind, .ref rC_parts, .ref rC_partNodes, .ref rC_weights, .ref rC_weightSums, .ref rC_toldWorths, .ref rC_steps, .ref rC_below, .ref rC_above, .ref rC_unsureWords, .ref rC_unsureWorths])), (rC_unsureWords, .inl (kC_unsureWords, 4, .inl fC_unsureWords))] s.heap.size = A at hD hE ⊢
  have hA : ∀ q : Nat, s.heap.size ≤ q → A q := fun q h => by rw [← hAe]; exact Or.inr h
  have hS : va_S A s.heap s.heap [] := va_S.rf
  have hl := lv_entry ([.ref oC, .int p0]) (n := 3) (Nat.le_of_ble_eq_true rfl)
  rw [lg_entry_eq]
  generalize (lg_sl ([.ref oC, .int p0]) ++ List.replicate (3 - (lg_sl ([.ref oC, .int p0])).length) Slot.unset).toArray = ls at hl ⊢
  have hl : lv_has ls 3 [(0, .ref oC), (1, .int p0)] := hl
  have rg_p0 := fb_rng p0
  refine lv_iconst (v := 0) hx hb dX1_isUnsure_0 (by decide) ?_
  refine lv_istore_n (lv' := [(2, .int 0), (0, .ref oC), (1, .int p0)]) hx hb dX1_isUnsure_1 rfl hl (by decide) rfl (fun ls hl => ?_)
  have hl := lv_sub hl (l' := [(2, .int 0), (0, .ref oC), (1, .int p0)]) [0, 1, 2] rfl
  have key_n_223 : ∀ (n_223 : Nat) (z_222 : Int32) (H : Heap) (locs : List Loc) (ls : Array Slot), (0 ≤ z_222.toInt ∧ z_222.toInt ≤ 2147483647) → (2147483647 - z_222.toInt).toNat < n_223 → va_P (dC, dI) vwCl [(oC, .inr (1, [.int iC_nodes, .int iC_words, .int iC_chances, .int iC_unsures, .int iC_slips, .int iC_throneNode, .int iC_saidWorth, .int iC_unit, .ref rC_kind, .ref rC_parts, .ref rC_partNodes, .ref rC_weights, .ref rC_weightSums, .ref rC_toldWorths, .ref rC_steps, .ref rC_below, .ref rC_above, .ref rC_unsureWords, .ref rC_unsureWorths])), (rC_unsureWords, .inl (kC_unsureWords, 4, .inl fC_unsureWords))] H → va_D A [(oC, .inr (1, [.int iC_nodes, .int iC_words, .int iC_chances, .int iC_unsures, .int iC_slips, .int iC_throneNode, .int iC_saidWorth, .int iC_unit, .ref rC_kind, .ref rC_parts, .ref rC_partNodes, .ref rC_weights, .ref rC_weightSums, .ref rC_toldWorths, .ref rC_steps, .ref rC_below, .ref rC_above, .ref rC_unsureWords, .ref rC_unsureWorths])), (rC_unsureWords, .inl (kC_unsureWords, 4, .inl fC_unsureWords))] → va_S A s.heap H locs → lv_has ls 3 [(2, .int z_222), (0, .ref oC), (1, .int p0)] → W p l e (headSpec (Cond.code yX1_isUnsure cX1_isUnsure 3 (some .boolean) :: wG) ({ frames := 0, cells := 0, slots := 0, locals := 0 })).room s m ([.ref oC, .int p0] : List Value).toArray below meth c H locs 0 0 (MQ below (va_Qi (fun (r : Int32) (_ : Nat) => (r = 0 ∨ r = 1) ∧ True) (fun (_ : Nat) (t : State) => Bw dC dI A [(oC, .inr (1, [.int iC_nodes, .int iC_words, .int iC_chances, .int iC_unsures, .int iC_slips, .int iC_throneNode, .int iC_saidWorth, .int iC_unit, .ref rC_kind, .ref rC_parts, .ref rC_partNodes, .ref rC_weights, .ref rC_weightSums, .ref rC_toldWorths, .ref rC_steps, .ref rC_below, .ref rC_above, .ref rC_unsureWords, .ref rC_unsureWorths])), (rC_unsureWords, .inl (kC_unsureWords, 4, .inl fC_unsureWords))] [(kC_unsureWords, .int)] t) A) ([.ref oC, .int p0] : List Value).toArray s 0 0 A) (F0 m 2 ls []) := by
    intro n_223
    induction n_223 with
    | zero => intro z_222 H locs ls hi0_n_223 hm; exact absurd hm (by omega)
    | succ n_223 ih_n_223 =>
      intro z_222 H locs ls hi0_n_223 hm hP hD hS hl
      have rg_z_222 := fb_rng z_222
      refine lv_iload_n hx hb dX1_isUnsure_2 rfl (lv_at hl 0 rfl) ?_
      refine lv_aload_n hx hb dX1_isUnsure_3 rfl (lv_at hl 1 rfl) ?_
      refine va_get (D := (dC, dI)) (ci := 1) (v := .int iC_unsures) (C := RX1) (T := TX1) (N := 19) hx hb hts inX1 hown hK hP 0 rfl rfl 3 (by decide) (hts _ wd_218) (fun _ h9 => h9) rfl dX1_isUnsure_4 ?_
      have rg_iC_unsures := fb_rng iC_unsures
      refine lv_icmp_ge (tgt := 28) hx hb dX1_isUnsure_7 (by decide) (fun c_224 => ?_) (fun c_224 => ?_)
      · skip
        have gc_224 := ti_le c_224 rfl rfl
        refine lv_iconst (v := 0) hx hb dX1_isUnsure_28 (by decide) ?_
        have hP9 := hP.sub (ws' := [(oC, .inr (1, [.int iC_nodes, .int iC_words, .int iC_chances, .int iC_unsures, .int iC_slips, .int iC_throneNode, .int iC_saidWorth, .int iC_unit, .ref rC_kind, .ref rC_parts, .ref rC_partNodes, .ref rC_weights, .ref rC_weightSums, .ref rC_toldWorths, .ref rC_steps, .ref rC_below, .ref rC_above, .ref rC_unsureWords, .ref rC_unsureWorths])), (rC_unsureWords, .inl (kC_unsureWords, 4, .inl fC_unsureWords))]) [0, 1] rfl
        have hD9 := hD.sub (ws' := [(oC, .inr (1, [.int iC_nodes, .int iC_words, .int iC_chances, .int iC_unsures, .int iC_slips, .int iC_throneNode, .int iC_saidWorth, .int iC_unit, .ref rC_kind, .ref rC_parts, .ref rC_partNodes, .ref rC_weights, .ref rC_weightSums, .ref rC_toldWorths, .ref rC_steps, .ref rC_below, .ref rC_above, .ref rC_unsureWords, .ref rC_unsureWorths])), (rC_unsureWords, .inl (kC_unsureWords, 4, .inl fC_unsureWords))]) [0, 1] (by decide) rfl
        have hK9 := hK.sub (tys' := [(kC_unsureWords, .int)]) [0] rfl
        exact W.zret (v := 0) hx hb hr rfl (fun t ht hW => ⟨⟨_, 0, rfl, ⟨Or.inl rfl, trivial⟩, Bw.to hP9 hD9 hK9 ht hW⟩, hS.F ht⟩) hS.2.2 dX1_isUnsure_29
      · skip
        have gc_224 := ti_nle c_224 rfl rfl
        refine lv_aload_n hx hb dX1_isUnsure_10 rfl (lv_at hl 1 rfl) ?_
        refine va_get (D := (dC, dI)) (ci := 1) (v := .ref rC_unsureWords) (C := RX1) (T := TX1) (N := 19) hx hb hts inX1 hown hK hP 0 rfl rfl 17 (by decide) (hts _ wd_63) (fun _ h9 => h9) rfl dX1_isUnsure_11 ?_
        refine lv_iload_n hx hb dX1_isUnsure_14 rfl (lv_at hl 0 rfl) ?_
        refine va_iald hx hb hK hP 1 0 rfl rfl (ti_in rfl (by omega) (by omega)) dX1_isUnsure_15 ?_
        refine lv_topi (fun x_225 ex_225 => ?_)
        have rg_x_225 := fb_rng x_225
        have kx_225 : (fC_unsureWords z_222.toNatClampNeg).toInt = x_225.toInt := by rw [ex_225]
        have ux_225 := a_fC_unsureWords _ (by have q := ti_cl (x := z_222) rfl (by omega); omega : z_222.toNatClampNeg < 4)
        rw [show fC_unsureWords z_222.toNatClampNeg = x_225 from ex_225.symm] at ux_225
        refine lv_iload_n hx hb dX1_isUnsure_16 rfl (lv_at hl 2 rfl) ?_
        refine lv_icmp_ne (tgt := 22) hx hb dX1_isUnsure_17 (by decide) (fun c_226 => ?_) (fun c_226 => ?_)
        · skip
          have gc_226 := ti_ne c_226 rfl rfl
          obtain ⟨x_227, ex_227⟩ : ∃ z : Int32, z = z_222 + Int32.ofInt 1 := ⟨_, rfl⟩
          have vx_227 : x_227.toInt = z_222.toInt + 1 := by have q := ti_add (y := 1) ex_227 rfl kc_1 (by omega) (by omega); omega
          refine lv_iinc (v := x_227) (lv' := [(2, .int x_227), (0, .ref oC), (1, .int p0)]) hx hb dX1_isUnsure_22 hl (k := 0) rfl ex_227.symm (by decide) rfl (fun ls hl => ?_)
          refine lv_goto (tgt := 2) hx hb dX1_isUnsure_25 (by decide) ?_
          exact ih_n_223 x_227 _ _ _  (by first | omega | decide | assumption) (by omega) (hP.sub [0, 1] rfl) (hD.sub [0, 1] (by decide) rfl) hS (lv_sub hl [0, 1, 2] rfl)
        · skip
          have gc_226 := ti_eq c_226 rfl rfl
          refine lv_iconst (v := 1) hx hb dX1_isUnsure_20 (by decide) ?_
          have hP9 := hP.sub (ws' := [(oC, .inr (1, [.int iC_nodes, .int iC_words, .int iC_chances, .int iC_unsures, .int iC_slips, .int iC_throneNode, .int iC_saidWorth, .int iC_unit, .ref rC_kind, .ref rC_parts, .ref rC_partNodes, .ref rC_weights, .ref rC_weightSums, .ref rC_toldWorths, .ref rC_steps, .ref rC_below, .ref rC_above, .ref rC_unsureWords, .ref rC_unsureWorths])), (rC_unsureWords, .inl (kC_unsureWords, 4, .inl fC_unsureWords))]) [0, 1] rfl
          have hD9 := hD.sub (ws' := [(oC, .inr (1, [.int iC_nodes, .int iC_words, .int iC_chances, .int iC_unsures, .int iC_slips, .int iC_throneNode, .int iC_saidWorth, .int iC_unit, .ref rC_kind, .ref rC_parts, .ref rC_partNodes, .ref rC_weights, .ref rC_weightSums, .ref rC_toldWorths, .ref rC_steps, .ref rC_below, .ref rC_above, .ref rC_unsureWords, .ref rC_unsureWorths])), (rC_unsureWords, .inl (kC_unsureWords, 4, .inl fC_unsureWords))]) [0, 1] (by decide) rfl
          have hK9 := hK.sub (tys' := [(kC_unsureWords, .int)]) [0] rfl
          exact W.zret (v := 1) hx hb hr rfl (fun t ht hW => ⟨⟨_, 0, rfl, ⟨Or.inr rfl, trivial⟩, Bw.to hP9 hD9 hK9 ht hW⟩, hS.F ht⟩) hS.2.2 dX1_isUnsure_21
  exact key_n_223 ((2147483647 - (0 : Int32).toInt).toNat + 1) 0 _ _ _  (by first | omega | decide | assumption | (have q0 := kc_0; have q1 := kc_1; omega)) (by omega) hP hD hS hl
set_option maxHeartbeats 4000000 in
set_option maxRecDepth 100000 in
theorem tX1_addPart (l : Launch) (dC : Nat → ClassId) (dI : Nat → Nat → Nat) (sz : Nat) (oC : Nat) (iC_nodes : Int32) (iC_words : Int32) (iC_chances : Int32) (iC_unsures : Int32) (iC_slips : Int32) (iC_throneNode : Int32) (iC_saidWorth : Int32) (iC_unit : Int32) (rC_kind : Nat) (rC_parts : Nat) (fC_parts : Nat → Int32) (kC_parts : ClassId) (rC_partNodes : Nat) (fC_partNodes : Nat → Int32) (kC_partNodes : ClassId) (rC_weights : Nat) (fC_weights : Nat → Int32) (kC_weights : ClassId) (rC_weightSums : Nat) (fC_weightSums : Nat → Int32) (kC_weightSums : ClassId) (rC_toldWorths : Nat) (rC_steps : Nat) (fC_steps : Nat → Int32) (kC_steps : ClassId) (rC_below : Nat) (fC_below : Nat → Int32) (kC_below : ClassId) (rC_above : Nat) (fC_above : Nat → Int32) (kC_above : ClassId) (rC_unsureWords : Nat) (rC_unsureWorths : Nat) (p0 : Int32) (p1 : Int32) (b_iC_nodes : 0 ≤ iC_nodes.toInt ∧ iC_nodes.toInt ≤ 18) (b_iC_unsures : 0 ≤ iC_unsures.toInt ∧ iC_unsures.toInt ≤ 4) (b_iC_throneNode : (-1) ≤ iC_throneNode.toInt ∧ iC_throneNode.toInt ≤ 17) (a_fC_parts : ∀ j : Nat, j < 18 → 0 ≤ (fC_parts j).toInt ∧ (fC_parts j).toInt ≤ 4) (a_fC_partNodes : ∀ j : Nat, j < 72 → 0 ≤ (fC_partNodes j).toInt ∧ (fC_partNodes j).toInt ≤ 17)  : Met l yX1_addPart (Cond.code yX1_addPart cX1_addPart 4 none :: wG) ({ frames := 1, cells := 0, slots := 0, locals := 29 }) (va_Pc [.ref oC, .int p0, .int p1] (Pw dC dI sz [(oC, .inr (1, [.int iC_nodes, .int iC_words, .int iC_chances, .int iC_unsures, .int iC_slips, .int iC_throneNode, .int iC_saidWorth, .int iC_unit, .ref rC_kind, .ref rC_parts, .ref rC_partNodes, .ref rC_weights, .ref rC_weightSums, .ref rC_toldWorths, .ref rC_steps, .ref rC_below, .ref rC_above, .ref rC_unsureWords, .ref rC_unsureWorths])), (rC_parts, .inl (kC_parts, 18, .inl fC_parts)), (rC_partNodes, .inl (kC_partNodes, 72, .inl fC_partNodes)), (rC_weights, .inl (kC_weights, 72, .inl fC_weights)), (rC_weightSums, .inl (kC_weightSums, 18, .inl fC_weightSums)), (rC_steps, .inl (kC_steps, 18, .inl fC_steps)), (rC_below, .inl (kC_below, 18, .inl fC_below)), (rC_above, .inl (kC_above, 18, .inl fC_above))] [(kC_parts, .int), (kC_partNodes, .int), (kC_weights, .int), (kC_weightSums, .int), (kC_steps, .int), (kC_below, .int), (kC_above, .int)])) (va_Qv (fun (_ : Nat) => True) (fun (_ : Nat) (t : State) => ∃ (nfC_parts : Nat → Int32) (nfC_partNodes : Nat → Int32) (nfC_weights : Nat → Int32) (nfC_weightSums : Nat → Int32) (nfC_steps : Nat → Int32) (nfC_below : Nat → Int32) (nfC_above : Nat → Int32), (∀ j : Nat, j < 18 → 0 ≤ (nfC_parts j).toInt ∧ (nfC_parts j).toInt ≤ 4) ∧ (∀ j : Nat, j < 72 → 0 ≤ (nfC_partNodes j).toInt ∧ (nfC_partNodes j).toInt ≤ 17) ∧ Bw dC dI (va_A [(oC, .inr (1, [.int iC_nodes, .int iC_words, .int iC_chances, .int iC_unsures, .int iC_slips, .int iC_throneNode, .int iC_saidWorth, .int iC_unit, .ref rC_kind, .ref rC_parts, .ref rC_partNodes, .ref rC_weights, .ref rC_weightSums, .ref rC_toldWorths, .ref rC_steps, .ref rC_below, .ref rC_above, .ref rC_unsureWords, .ref rC_unsureWorths])), (rC_parts, .inl (kC_parts, 18, .inl fC_parts)), (rC_partNodes, .inl (kC_partNodes, 72, .inl fC_partNodes)), (rC_weights, .inl (kC_weights, 72, .inl fC_weights)), (rC_weightSums, .inl (kC_weightSums, 18, .inl fC_weightSums)), (rC_steps, .inl (kC_steps, 18, .inl fC_steps)), (rC_below, .inl (kC_below, 18, .inl fC_below)), (rC_above, .inl (kC_above, 18, .inl fC_above))] sz) [(oC, .inr (1, [.int iC_nodes, .int iC_words, .int iC_chances, .int iC_unsures, .int iC_slips, .int iC_throneNode, .int iC_saidWorth, .int iC_unit, .ref rC_kind, .ref rC_parts, .ref rC_partNodes, .ref rC_weights, .ref rC_weightSums, .ref rC_toldWorths, .ref rC_steps, .ref rC_below, .ref rC_above, .ref rC_unsureWords, .ref rC_unsureWorths])), (rC_parts, .inl (kC_parts, 18, .inl nfC_parts)), (rC_partNodes, .inl (kC_partNodes, 72, .inl nfC_partNodes)), (rC_weights, .inl (kC_weights, 72, .inl nfC_weights)), (rC_weightSums, .inl (kC_weightSums, 18, .inl nfC_weightSums)), (rC_steps, .inl (kC_steps, 18, .inl nfC_steps)), (rC_below, .inl (kC_below, 18, .inl nfC_below)), (rC_above, .inl (kC_above, 18, .inl nfC_above))] [(kC_parts, .int), (kC_partNodes, .int), (kC_weights, .int), (kC_weightSums, .int), (kC_steps, .int), (kC_below, .int), (kC_above, .int)] t) (va_A [(oC, .inr (1, [.int iC_nodes, .int iC_words, .int iC_chances, .int iC_unsures, .int iC_slips, .int iC_throneNode, .int iC_saidWorth, .int iC_unit, .ref rC_kind, .ref rC_parts, .ref rC_partNodes, .ref rC_weights, .ref rC_weightSums, .ref rC_toldWorths, .ref rC_steps, .ref rC_below, .ref rC_above, .ref rC_unsureWords, .ref rC_unsureWorths])), (rC_parts, .inl (kC_parts, 18, .inl fC_parts)), (rC_partNodes, .inl (kC_partNodes, 72, .inl fC_partNodes)), (rC_weights, .inl (kC_weights, 72, .inl fC_weights)), (rC_weightSums, .inl (kC_weightSums, 18, .inl fC_weightSums)), (rC_steps, .inl (kC_steps, 18, .inl fC_steps)), (rC_below, .inl (kC_below, 18, .inl fC_below)), (rC_above, .inl (kC_above, 18, .inl fC_above))] sz)) 0 0 (va_A [(oC, .inr (1, [.int iC_nodes, .int iC_words, .int iC_chances, .int iC_unsures, .int iC_slips, .int iC_throneNode, .int iC_saidWorth, .int iC_unit, .ref rC_kind, .ref rC_parts, .ref rC_partNodes, .ref rC_weights, .ref rC_weightSums, .ref rC_toldWorths, .ref rC_steps, .ref rC_below, .ref rC_above, .ref rC_unsureWords, .ref rC_unsureWorths])), (rC_parts, .inl (kC_parts, 18, .inl fC_parts)), (rC_partNodes, .inl (kC_partNodes, 72, .inl fC_partNodes)), (rC_weights, .inl (kC_weights, 72, .inl fC_weights)), (rC_weightSums, .inl (kC_weightSums, 18, .inl fC_weightSums)), (rC_steps, .inl (kC_steps, 18, .inl fC_steps)), (rC_below, .inl (kC_below, 18, .inl fC_below)), (rC_above, .inl (kC_above, 18, .inl fC_above))] sz) := by
  refine Met.ofW (cc := cX1_addPart) (maxL := 4) (ret := none) (by decide) rfl ?_
  intro p e s m args below meth c s₁ B hml hv
  obtain ⟨rfl, hsz, hP, hK, hD0, hE⟩ := hv
  have hx := B.exec
  have hb := B.bytes
  have hr := B.returns
  have hts : ∀ w ∈ wG, w.before ([.ref oC, .int p0, .int p1] : List Value).toArray s = true := fun w h => atoms_spec (ws := Cond.code yX1_addPart cX1_addPart 4 none :: wG) B.pre w (List.mem_cons_of_mem _ h)
  have hown : s.vm.findClass RX1 = some m.cls := findClass_of_methodNamed B.named
  have hlocks := B.notSynchronized
  subst hsz
  have hD := hD0.self (sz := s.heap.size)
  generalize hAe : va_A [(oC, .inr (1, [.int iC_nodes, .int iC_words, .int iC_chances, .int iC_unsures, .int iC_slips, .int iC_throneNode, .int iC_saidWorth, .int iC_unit, .ref rC_kind, .ref rC_parts, .ref rC_partNodes, .ref rC_weights, .ref rC_weightSums, .ref rC_toldWorths, .ref rC_steps, .ref rC_below, .ref rC_above, .ref rC_unsureWords, .ref rC_unsureWorths])), (rC_parts, .inl (kC_parts, 18, .inl fC_parts)), (rC_partNodes, .inl (kC_partNodes, 72, .inl fC_partNodes)), (rC_weights, .inl (kC_weights, 72, .inl fC_weights)), (rC_weightSums, .inl (kC_weightSums, 18, .inl fC_weightSums)), (rC_steps, .inl (kC_steps, 18, .inl fC_steps)), (rC_below, .inl (kC_below, 18, .inl fC_below)), (rC_above, .inl (kC_above, 18, .inl fC_above))] s.heap.size = A at hD hE ⊢
  have hA : ∀ q : Nat, s.heap.size ≤ q → A q := fun q h => by rw [← hAe]; exact Or.inr h
  have hS : va_S A s.heap s.heap [] := va_S.rf
  have hl := lv_entry ([.ref oC, .int p0, .int p1]) (n := 4) (Nat.le_of_ble_eq_true rfl)
  rw [lg_entry_eq]
  generalize (lg_sl ([.ref oC, .int p0, .int p1]) ++ List.replicate (4 - (lg_sl ([.ref oC, .int p0, .int p1])).length) Slot.unset).toArray = ls at hl ⊢
  have hl : lv_has ls 4 [(0, .ref oC), (1, .int p0), (2, .int p1)] := hl
  have rg_p0 := fb_rng p0
  have rg_p1 := fb_rng p1
  refine lv_aload_n hx hb dX1_addPart_0 rfl (lv_at hl 0 rfl) ?_
  have hPc := hP.sub (ws' := [(oC, .inr (1, [.int iC_nodes, .int iC_words, .int iC_chances, .int iC_unsures, .int iC_slips, .int iC_throneNode, .int iC_saidWorth, .int iC_unit, .ref rC_kind, .ref rC_parts, .ref rC_partNodes, .ref rC_weights, .ref rC_weightSums, .ref rC_toldWorths, .ref rC_steps, .ref rC_below, .ref rC_above, .ref rC_unsureWords, .ref rC_unsureWorths])), (rC_parts, .inl (kC_parts, 18, .inl fC_parts))]) [0, 1] rfl
  have hDc := hD.sub (ws' := [(oC, .inr (1, [.int iC_nodes, .int iC_words, .int iC_chances, .int iC_unsures, .int iC_slips, .int iC_throneNode, .int iC_saidWorth, .int iC_unit, .ref rC_kind, .ref rC_parts, .ref rC_partNodes, .ref rC_weights, .ref rC_weightSums, .ref rC_toldWorths, .ref rC_steps, .ref rC_below, .ref rC_above, .ref rC_unsureWords, .ref rC_unsureWorths])), (rC_parts, .inl (kC_parts, 18, .inl fC_parts))]) [0, 1] (by decide) rfl
  have hKc := hK.sub (tys' := [(kC_parts, .int)]) [0] rfl
  have hFc := va_free (wc := [(oC, .inr (1, [.int iC_nodes, .int iC_words, .int iC_chances, .int iC_unsures, .int iC_slips, .int iC_throneNode, .int iC_saidWorth, .int iC_unit, .ref rC_kind, .ref rC_parts, .ref rC_partNodes, .ref rC_weights, .ref rC_weightSums, .ref rC_toldWorths, .ref rC_steps, .ref rC_below, .ref rC_above, .ref rC_unsureWords, .ref rC_unsureWorths])), (rC_parts, .inl (kC_parts, 18, .inl fC_parts))]) hD hS hA [0, 1] rfl
  refine va_calli (va_runV (As := []) (rest := []) ⟨hx, hb, hml, hown, hts⟩ (tX1_hasRoomForPart l dC dI _ oC iC_nodes iC_words iC_chances iC_unsures iC_slips iC_throneNode iC_saidWorth iC_unit rC_kind rC_parts fC_parts kC_parts rC_partNodes rC_weights rC_weightSums rC_toldWorths rC_steps rC_below rC_above rC_unsureWords rC_unsureWorths (by first | omega | decide) (by first | omega | decide) (by first | omega | decide) a_fC_parts) (cwV 0 hts (wd_V wd_324 wd_313 wd_314 wd_19 (wd_c wd_315)) rfl rfl rfl (by decide +kernel) ⟨Nat.le_of_ble_eq_true rfl, Nat.le_of_ble_eq_true rfl⟩) ⟨Pw.fb, va_recv hKc hPc (ci := 1) (q0 := 0) rfl rfl, fun U hU hW => Pw.to hPc hDc hKc hE hS hFc hU hW⟩ rfl rfl hl.1 rfl (lv_room (Nat.le_of_ble_eq_true rfl)) dX1_addPart_1 ⟨Nat.le_of_ble_eq_true rfl, Nat.le_of_ble_eq_true rfl⟩) hS (fun q _ h => hFc q h) hFc (fun r u t H locs ht hvm hw hB hz1 hk1 hS => ?_)
  obtain ⟨hP, hD, hK⟩ := Bw.back (wc := [(oC, .inr (1, [.int iC_nodes, .int iC_words, .int iC_chances, .int iC_unsures, .int iC_slips, .int iC_throneNode, .int iC_saidWorth, .int iC_unit, .ref rC_kind, .ref rC_parts, .ref rC_partNodes, .ref rC_weights, .ref rC_weightSums, .ref rC_toldWorths, .ref rC_steps, .ref rC_below, .ref rC_above, .ref rC_unsureWords, .ref rC_unsureWorths])), (rC_parts, .inl (kC_parts, 18, .inl fC_parts))]) (wr := [(rC_partNodes, .inl (kC_partNodes, 72, .inl fC_partNodes)), (rC_weights, .inl (kC_weights, 72, .inl fC_weights)), (rC_weightSums, .inl (kC_weightSums, 18, .inl fC_weightSums)), (rC_steps, .inl (kC_steps, 18, .inl fC_steps)), (rC_below, .inl (kC_below, 18, .inl fC_below)), (rC_above, .inl (kC_above, 18, .inl fC_above))]) (tyr := [(kC_partNodes, .int), (kC_weights, .int), (kC_weightSums, .int), (kC_steps, .int), (kC_below, .int), (kC_above, .int)]) hB rfl ht hvm hP hD hK [0, 1] [2, 3, 4, 5, 6, 7] rfl rfl (by decide) (by decide) [1, 2, 3, 4, 5, 6] rfl hk1 hFc
  have hP : va_P (dC, dI) vwCl [(rC_partNodes, .inl (kC_partNodes, 72, .inl fC_partNodes)), (rC_weights, .inl (kC_weights, 72, .inl fC_weights)), (rC_weightSums, .inl (kC_weightSums, 18, .inl fC_weightSums)), (rC_steps, .inl (kC_steps, 18, .inl fC_steps)), (rC_below, .inl (kC_below, 18, .inl fC_below)), (rC_above, .inl (kC_above, 18, .inl fC_above)), (oC, .inr (1, [.int iC_nodes, .int iC_words, .int iC_chances, .int iC_unsures, .int iC_slips, .int iC_throneNode, .int iC_saidWorth, .int iC_unit, .ref rC_kind, .ref rC_parts, .ref rC_partNodes, .ref rC_weights, .ref rC_weightSums, .ref rC_toldWorths, .ref rC_steps, .ref rC_below, .ref rC_above, .ref rC_unsureWords, .ref rC_unsureWorths])), (rC_parts, .inl (kC_parts, 18, .inl fC_parts))] H := hP
  have hD : va_D A [(rC_partNodes, .inl (kC_partNodes, 72, .inl fC_partNodes)), (rC_weights, .inl (kC_weights, 72, .inl fC_weights)), (rC_weightSums, .inl (kC_weightSums, 18, .inl fC_weightSums)), (rC_steps, .inl (kC_steps, 18, .inl fC_steps)), (rC_below, .inl (kC_below, 18, .inl fC_below)), (rC_above, .inl (kC_above, 18, .inl fC_above)), (oC, .inr (1, [.int iC_nodes, .int iC_words, .int iC_chances, .int iC_unsures, .int iC_slips, .int iC_throneNode, .int iC_saidWorth, .int iC_unit, .ref rC_kind, .ref rC_parts, .ref rC_partNodes, .ref rC_weights, .ref rC_weightSums, .ref rC_toldWorths, .ref rC_steps, .ref rC_below, .ref rC_above, .ref rC_unsureWords, .ref rC_unsureWorths])), (rC_parts, .inl (kC_parts, 18, .inl fC_parts))] := hD
  have hK : va_K (dC, dI) vwCl [(kC_partNodes, .int), (kC_weights, .int), (kC_weightSums, .int), (kC_steps, .int), (kC_below, .int), (kC_above, .int), (kC_parts, .int)] s := hK
  rcases hw.2 with ⟨rfl, hc_258⟩ | ⟨rfl, hc_258⟩
  · skip
    have rg_iC_nodes := fb_rng iC_nodes
    refine lv_if_eq (tgt := 134) hx hb dX1_addPart_4 (by decide) (fun c => absurd c (by decide)) (fun _ => ?_)
    refine lv_aload_n hx hb dX1_addPart_7 rfl (lv_at hl 0 rfl) ?_
    refine lv_iload_n hx hb dX1_addPart_8 rfl (lv_at hl 1 rfl) ?_
    have hPc := hP.sub (ws' := [(oC, .inr (1, [.int iC_nodes, .int iC_words, .int iC_chances, .int iC_unsures, .int iC_slips, .int iC_throneNode, .int iC_saidWorth, .int iC_unit, .ref rC_kind, .ref rC_parts, .ref rC_partNodes, .ref rC_weights, .ref rC_weightSums, .ref rC_toldWorths, .ref rC_steps, .ref rC_below, .ref rC_above, .ref rC_unsureWords, .ref rC_unsureWorths]))]) [6] rfl
    have hDc := hD.sub (ws' := [(oC, .inr (1, [.int iC_nodes, .int iC_words, .int iC_chances, .int iC_unsures, .int iC_slips, .int iC_throneNode, .int iC_saidWorth, .int iC_unit, .ref rC_kind, .ref rC_parts, .ref rC_partNodes, .ref rC_weights, .ref rC_weightSums, .ref rC_toldWorths, .ref rC_steps, .ref rC_below, .ref rC_above, .ref rC_unsureWords, .ref rC_unsureWorths]))]) [6] (by decide) rfl
    have hKc := hK.sub (tys' := []) [] rfl
    have hFc := va_free (wc := [(oC, .inr (1, [.int iC_nodes, .int iC_words, .int iC_chances, .int iC_unsures, .int iC_slips, .int iC_throneNode, .int iC_saidWorth, .int iC_unit, .ref rC_kind, .ref rC_parts, .ref rC_partNodes, .ref rC_weights, .ref rC_weightSums, .ref rC_toldWorths, .ref rC_steps, .ref rC_below, .ref rC_above, .ref rC_unsureWords, .ref rC_unsureWorths]))]) hD hS hA [6] rfl
    refine va_calli (va_runV (As := [.int p0]) (rest := []) ⟨hx, hb, hml, hown, hts⟩ (tX1_hasNode l dC dI _ oC iC_nodes iC_words iC_chances iC_unsures iC_slips iC_throneNode iC_saidWorth iC_unit rC_kind rC_parts rC_partNodes rC_weights rC_weightSums rC_toldWorths rC_steps rC_below rC_above rC_unsureWords rC_unsureWorths p0 (by first | omega | decide) (by first | omega | decide) (by first | omega | decide)) (cwV 1 hts (wd_V wd_325 wd_326 wd_327 wd_19 (wd_c wd_328)) rfl rfl rfl (by decide +kernel) ⟨Nat.le_of_ble_eq_true rfl, Nat.le_of_ble_eq_true rfl⟩) ⟨Pw.fb, va_recv hKc hPc (ci := 1) (q0 := 0) rfl rfl, fun U hU hW => Pw.to hPc hDc hKc hE hS hFc hU hW⟩ rfl rfl hl.1 rfl (lv_room (Nat.le_of_ble_eq_true rfl)) dX1_addPart_9 ⟨Nat.le_of_ble_eq_true rfl, Nat.le_of_ble_eq_true rfl⟩) hS (fun q _ h => hFc q h) hFc (fun r u t H locs ht hvm hw hB hz1 hk1 hS => ?_)
    obtain ⟨hP, hD, hK⟩ := Bw.back (wc := [(oC, .inr (1, [.int iC_nodes, .int iC_words, .int iC_chances, .int iC_unsures, .int iC_slips, .int iC_throneNode, .int iC_saidWorth, .int iC_unit, .ref rC_kind, .ref rC_parts, .ref rC_partNodes, .ref rC_weights, .ref rC_weightSums, .ref rC_toldWorths, .ref rC_steps, .ref rC_below, .ref rC_above, .ref rC_unsureWords, .ref rC_unsureWorths]))]) (wr := [(rC_partNodes, .inl (kC_partNodes, 72, .inl fC_partNodes)), (rC_weights, .inl (kC_weights, 72, .inl fC_weights)), (rC_weightSums, .inl (kC_weightSums, 18, .inl fC_weightSums)), (rC_steps, .inl (kC_steps, 18, .inl fC_steps)), (rC_below, .inl (kC_below, 18, .inl fC_below)), (rC_above, .inl (kC_above, 18, .inl fC_above)), (rC_parts, .inl (kC_parts, 18, .inl fC_parts))]) (tyr := [(kC_partNodes, .int), (kC_weights, .int), (kC_weightSums, .int), (kC_steps, .int), (kC_below, .int), (kC_above, .int), (kC_parts, .int)]) hB rfl ht hvm hP hD hK [6] [0, 1, 2, 3, 4, 5, 7] rfl rfl (by decide) (by decide) [0, 1, 2, 3, 4, 5, 6] rfl hk1 hFc
    have hP : va_P (dC, dI) vwCl [(rC_partNodes, .inl (kC_partNodes, 72, .inl fC_partNodes)), (rC_weights, .inl (kC_weights, 72, .inl fC_weights)), (rC_weightSums, .inl (kC_weightSums, 18, .inl fC_weightSums)), (rC_steps, .inl (kC_steps, 18, .inl fC_steps)), (rC_below, .inl (kC_below, 18, .inl fC_below)), (rC_above, .inl (kC_above, 18, .inl fC_above)), (rC_parts, .inl (kC_parts, 18, .inl fC_parts)), (oC, .inr (1, [.int iC_nodes, .int iC_words, .int iC_chances, .int iC_unsures, .int iC_slips, .int iC_throneNode, .int iC_saidWorth, .int iC_unit, .ref rC_kind, .ref rC_parts, .ref rC_partNodes, .ref rC_weights, .ref rC_weightSums, .ref rC_toldWorths, .ref rC_steps, .ref rC_below, .ref rC_above, .ref rC_unsureWords, .ref rC_unsureWorths]))] H := hP
    have hD : va_D A [(rC_partNodes, .inl (kC_partNodes, 72, .inl fC_partNodes)), (rC_weights, .inl (kC_weights, 72, .inl fC_weights)), (rC_weightSums, .inl (kC_weightSums, 18, .inl fC_weightSums)), (rC_steps, .inl (kC_steps, 18, .inl fC_steps)), (rC_below, .inl (kC_below, 18, .inl fC_below)), (rC_above, .inl (kC_above, 18, .inl fC_above)), (rC_parts, .inl (kC_parts, 18, .inl fC_parts)), (oC, .inr (1, [.int iC_nodes, .int iC_words, .int iC_chances, .int iC_unsures, .int iC_slips, .int iC_throneNode, .int iC_saidWorth, .int iC_unit, .ref rC_kind, .ref rC_parts, .ref rC_partNodes, .ref rC_weights, .ref rC_weightSums, .ref rC_toldWorths, .ref rC_steps, .ref rC_below, .ref rC_above, .ref rC_unsureWords, .ref rC_unsureWorths]))] := hD
    have hK : va_K (dC, dI) vwCl [(kC_partNodes, .int), (kC_weights, .int), (kC_weightSums, .int), (kC_steps, .int), (kC_below, .int), (kC_above, .int), (kC_parts, .int)] s := hK
    rcases hw.2 with ⟨rfl, hc_260⟩ | ⟨rfl, hc_260⟩
    · skip
      refine lv_if_eq (tgt := 134) hx hb dX1_addPart_12 (by decide) (fun c => absurd c (by decide)) (fun _ => ?_)
      refine lv_aload_n hx hb dX1_addPart_15 rfl (lv_at hl 0 rfl) ?_
      refine va_get (D := (dC, dI)) (ci := 1) (v := .int iC_nodes) (C := RX1) (T := TX1) (N := 19) hx hb hts inX1 hown hK hP 7 rfl rfl 0 (by decide) (hts _ wd_215) (fun _ h9 => h9) rfl dX1_addPart_16 ?_
      refine lv_iconst (v := 4) hx hb dX1_addPart_19 (by decide) ?_
      refine lv_imul hx hb dX1_addPart_20 ?_
      refine lv_topi (fun x_262 ex_262 => ?_)
      have vx_262 : x_262.toInt = 4 * iC_nodes.toInt := by have q := ti_mul ex_262 rfl kc_4 (by omega) (by omega); omega
      refine lv_aload_n hx hb dX1_addPart_21 rfl (lv_at hl 0 rfl) ?_
      refine va_get (D := (dC, dI)) (ci := 1) (v := .ref rC_parts) (C := RX1) (T := TX1) (N := 19) hx hb hts inX1 hown hK hP 7 rfl rfl 9 (by decide) (hts _ wd_55) (fun _ h9 => h9) rfl dX1_addPart_22 ?_
      refine lv_aload_n hx hb dX1_addPart_25 rfl (lv_at hl 0 rfl) ?_
      refine va_get (D := (dC, dI)) (ci := 1) (v := .int iC_nodes) (C := RX1) (T := TX1) (N := 19) hx hb hts inX1 hown hK hP 7 rfl rfl 0 (by decide) (hts _ wd_215) (fun _ h9 => h9) rfl dX1_addPart_26 ?_
      refine va_iald hx hb hK hP 6 6 rfl rfl (ti_in rfl (by omega) (by omega)) dX1_addPart_29 ?_
      refine lv_topi (fun x_263 ex_263 => ?_)
      have rg_x_263 := fb_rng x_263
      have kx_263 : (fC_parts iC_nodes.toNatClampNeg).toInt = x_263.toInt := by rw [ex_263]
      have ux_263 := a_fC_parts _ (by have q := ti_cl (x := iC_nodes) rfl (by omega); omega : iC_nodes.toNatClampNeg < 18)
      rw [show fC_parts iC_nodes.toNatClampNeg = x_263 from ex_263.symm] at ux_263
      refine lv_iadd hx hb dX1_addPart_30 ?_
      refine lv_topi (fun x_264 ex_264 => ?_)
      have vx_264 : x_264.toInt = 4 * iC_nodes.toInt + x_263.toInt := by have q := ti_add ex_264 vx_262 rfl (by omega) (by omega); omega
      refine lv_istore_n (lv' := [(3, .int x_264), (0, .ref oC), (1, .int p0), (2, .int p1)]) hx hb dX1_addPart_31 rfl hl (by decide) rfl (fun ls hl => ?_)
      refine lv_aload_n hx hb dX1_addPart_32 rfl (lv_at hl 1 rfl) ?_
      refine va_get (D := (dC, dI)) (ci := 1) (v := .ref rC_partNodes) (C := RX1) (T := TX1) (N := 19) hx hb hts inX1 hown hK hP 7 rfl rfl 10 (by decide) (hts _ wd_56) (fun _ h9 => h9) rfl dX1_addPart_33 ?_
      refine lv_iload_n hx hb dX1_addPart_36 rfl (lv_at hl 0 rfl) ?_
      refine lv_iload_n hx hb dX1_addPart_37 rfl (lv_at hl 2 rfl) ?_
      refine vi_iast (lo := 0) (hi := 17) hx hb hK hP hD hS 0 0 rfl rfl (ti_in vx_264 (by omega) (by omega)) a_fC_partNodes (by omega) dX1_addPart_38 (fun H locs f_265 a_f_265 hP hD hS => ?_)
      have hP : va_P (dC, dI) vwCl [(rC_partNodes, .inl (kC_partNodes, 72, .inl f_265)), (rC_weights, .inl (kC_weights, 72, .inl fC_weights)), (rC_weightSums, .inl (kC_weightSums, 18, .inl fC_weightSums)), (rC_steps, .inl (kC_steps, 18, .inl fC_steps)), (rC_below, .inl (kC_below, 18, .inl fC_below)), (rC_above, .inl (kC_above, 18, .inl fC_above)), (rC_parts, .inl (kC_parts, 18, .inl fC_parts)), (oC, .inr (1, [.int iC_nodes, .int iC_words, .int iC_chances, .int iC_unsures, .int iC_slips, .int iC_throneNode, .int iC_saidWorth, .int iC_unit, .ref rC_kind, .ref rC_parts, .ref rC_partNodes, .ref rC_weights, .ref rC_weightSums, .ref rC_toldWorths, .ref rC_steps, .ref rC_below, .ref rC_above, .ref rC_unsureWords, .ref rC_unsureWorths]))] H := hP
      have hD : va_D A [(rC_partNodes, .inl (kC_partNodes, 72, .inl f_265)), (rC_weights, .inl (kC_weights, 72, .inl fC_weights)), (rC_weightSums, .inl (kC_weightSums, 18, .inl fC_weightSums)), (rC_steps, .inl (kC_steps, 18, .inl fC_steps)), (rC_below, .inl (kC_below, 18, .inl fC_below)), (rC_above, .inl (kC_above, 18, .inl fC_above)), (rC_parts, .inl (kC_parts, 18, .inl fC_parts)), (oC, .inr (1, [.int iC_nodes, .int iC_words, .int iC_chances, .int iC_unsures, .int iC_slips, .int iC_throneNode, .int iC_saidWorth, .int iC_unit, .ref rC_kind, .ref rC_parts, .ref rC_partNodes, .ref rC_weights, .ref rC_weightSums, .ref rC_toldWorths, .ref rC_steps, .ref rC_below, .ref rC_above, .ref rC_unsureWords, .ref rC_unsureWorths]))] := hD
      refine lv_aload_n hx hb dX1_addPart_39 rfl (lv_at hl 1 rfl) ?_
      refine va_get (D := (dC, dI)) (ci := 1) (v := .ref rC_weights) (C := RX1) (T := TX1) (N := 19) hx hb hts inX1 hown hK hP 7 rfl rfl 11 (by decide) (hts _ wd_57) (fun _ h9 => h9) rfl dX1_addPart_40 ?_
      refine lv_iload_n hx hb dX1_addPart_43 rfl (lv_at hl 0 rfl) ?_
      refine lv_iload_n hx hb dX1_addPart_44 rfl (lv_at hl 3 rfl) ?_
      refine vz_iast hx hb hK hP hD hS 1 1 rfl rfl (ti_in vx_264 (by omega) (by omega)) dX1_addPart_45 (fun H locs f_266 hP hD hS => ?_)
      have hP : va_P (dC, dI) vwCl [(rC_partNodes, .inl (kC_partNodes, 72, .inl f_265)), (rC_weights, .inl (kC_weights, 72, .inl f_266)), (rC_weightSums, .inl (kC_weightSums, 18, .inl fC_weightSums)), (rC_steps, .inl (kC_steps, 18, .inl fC_steps)), (rC_below, .inl (kC_below, 18, .inl fC_below)), (rC_above, .inl (kC_above, 18, .inl fC_above)), (rC_parts, .inl (kC_parts, 18, .inl fC_parts)), (oC, .inr (1, [.int iC_nodes, .int iC_words, .int iC_chances, .int iC_unsures, .int iC_slips, .int iC_throneNode, .int iC_saidWorth, .int iC_unit, .ref rC_kind, .ref rC_parts, .ref rC_partNodes, .ref rC_weights, .ref rC_weightSums, .ref rC_toldWorths, .ref rC_steps, .ref rC_below, .ref rC_above, .ref rC_unsureWords, .ref rC_unsureWorths]))] H := hP
      have hD : va_D A [(rC_partNodes, .inl (kC_partNodes, 72, .inl f_265)), (rC_weights, .inl (kC_weights, 72, .inl f_266)), (rC_weightSums, .inl (kC_weightSums, 18, .inl fC_weightSums)), (rC_steps, .inl (kC_steps, 18, .inl fC_steps)), (rC_below, .inl (kC_below, 18, .inl fC_below)), (rC_above, .inl (kC_above, 18, .inl fC_above)), (rC_parts, .inl (kC_parts, 18, .inl fC_parts)), (oC, .inr (1, [.int iC_nodes, .int iC_words, .int iC_chances, .int iC_unsures, .int iC_slips, .int iC_throneNode, .int iC_saidWorth, .int iC_unit, .ref rC_kind, .ref rC_parts, .ref rC_partNodes, .ref rC_weights, .ref rC_weightSums, .ref rC_toldWorths, .ref rC_steps, .ref rC_below, .ref rC_above, .ref rC_unsureWords, .ref rC_unsureWorths]))] := hD
      refine lv_aload_n hx hb dX1_addPart_46 rfl (lv_at hl 1 rfl) ?_
      refine va_get (D := (dC, dI)) (ci := 1) (v := .ref rC_parts) (C := RX1) (T := TX1) (N := 19) hx hb hts inX1 hown hK hP 7 rfl rfl 9 (by decide) (hts _ wd_55) (fun _ h9 => h9) rfl dX1_addPart_47 ?_
      refine lv_aload_n hx hb dX1_addPart_50 rfl (lv_at hl 1 rfl) ?_
      refine va_get (D := (dC, dI)) (ci := 1) (v := .int iC_nodes) (C := RX1) (T := TX1) (N := 19) hx hb hts inX1 hown hK hP 7 rfl rfl 0 (by decide) (hts _ wd_215) (fun _ h9 => h9) rfl dX1_addPart_51 ?_
      refine lv_dup2_11 hx hb dX1_addPart_54 rfl rfl ?_
      refine va_iald hx hb hK hP 6 6 rfl rfl (ti_in rfl (by omega) (by omega)) dX1_addPart_55 ?_
      refine lv_topi (fun x_267 ex_267 => ?_)
      have rg_x_267 := fb_rng x_267
      have kx_267 : (fC_parts iC_nodes.toNatClampNeg).toInt = x_267.toInt := by rw [ex_267]
      have ux_267 := a_fC_parts _ (by have q := ti_cl (x := iC_nodes) rfl (by omega); omega : iC_nodes.toNatClampNeg < 18)
      rw [show fC_parts iC_nodes.toNatClampNeg = x_267 from ex_267.symm] at ux_267
      refine lv_iconst (v := 1) hx hb dX1_addPart_56 (by decide) ?_
      refine lv_iadd hx hb dX1_addPart_57 ?_
      refine lv_topi (fun x_268 ex_268 => ?_)
      have vx_268 : x_268.toInt = x_267.toInt + 1 := by have q := ti_add ex_268 rfl kc_1 (by omega) (by omega); omega
      refine vi_iast (lo := 0) (hi := 4) hx hb hK hP hD hS 6 6 rfl rfl (ti_in rfl (by omega) (by omega)) a_fC_parts (by have q := vx_268; omega) dX1_addPart_58 (fun H locs f_269 a_f_269 hP hD hS => ?_)
      have hP : va_P (dC, dI) vwCl [(rC_partNodes, .inl (kC_partNodes, 72, .inl f_265)), (rC_weights, .inl (kC_weights, 72, .inl f_266)), (rC_weightSums, .inl (kC_weightSums, 18, .inl fC_weightSums)), (rC_steps, .inl (kC_steps, 18, .inl fC_steps)), (rC_below, .inl (kC_below, 18, .inl fC_below)), (rC_above, .inl (kC_above, 18, .inl fC_above)), (rC_parts, .inl (kC_parts, 18, .inl f_269)), (oC, .inr (1, [.int iC_nodes, .int iC_words, .int iC_chances, .int iC_unsures, .int iC_slips, .int iC_throneNode, .int iC_saidWorth, .int iC_unit, .ref rC_kind, .ref rC_parts, .ref rC_partNodes, .ref rC_weights, .ref rC_weightSums, .ref rC_toldWorths, .ref rC_steps, .ref rC_below, .ref rC_above, .ref rC_unsureWords, .ref rC_unsureWorths]))] H := hP
      have hD : va_D A [(rC_partNodes, .inl (kC_partNodes, 72, .inl f_265)), (rC_weights, .inl (kC_weights, 72, .inl f_266)), (rC_weightSums, .inl (kC_weightSums, 18, .inl fC_weightSums)), (rC_steps, .inl (kC_steps, 18, .inl fC_steps)), (rC_below, .inl (kC_below, 18, .inl fC_below)), (rC_above, .inl (kC_above, 18, .inl fC_above)), (rC_parts, .inl (kC_parts, 18, .inl f_269)), (oC, .inr (1, [.int iC_nodes, .int iC_words, .int iC_chances, .int iC_unsures, .int iC_slips, .int iC_throneNode, .int iC_saidWorth, .int iC_unit, .ref rC_kind, .ref rC_parts, .ref rC_partNodes, .ref rC_weights, .ref rC_weightSums, .ref rC_toldWorths, .ref rC_steps, .ref rC_below, .ref rC_above, .ref rC_unsureWords, .ref rC_unsureWorths]))] := hD
      refine lv_aload_n hx hb dX1_addPart_59 rfl (lv_at hl 1 rfl) ?_
      refine va_get (D := (dC, dI)) (ci := 1) (v := .ref rC_weightSums) (C := RX1) (T := TX1) (N := 19) hx hb hts inX1 hown hK hP 7 rfl rfl 12 (by decide) (hts _ wd_58) (fun _ h9 => h9) rfl dX1_addPart_60 ?_
      refine lv_aload_n hx hb dX1_addPart_63 rfl (lv_at hl 1 rfl) ?_
      refine va_get (D := (dC, dI)) (ci := 1) (v := .int iC_nodes) (C := RX1) (T := TX1) (N := 19) hx hb hts inX1 hown hK hP 7 rfl rfl 0 (by decide) (hts _ wd_215) (fun _ h9 => h9) rfl dX1_addPart_64 ?_
      refine lv_dup2_11 hx hb dX1_addPart_67 rfl rfl ?_
      refine va_iald hx hb hK hP 2 2 rfl rfl (ti_in rfl (by omega) (by omega)) dX1_addPart_68 ?_
      refine lv_topi (fun x_270 ex_270 => ?_)
      have rg_x_270 := fb_rng x_270
      have kx_270 : (fC_weightSums iC_nodes.toNatClampNeg).toInt = x_270.toInt := by rw [ex_270]
      refine lv_iload_n hx hb dX1_addPart_69 rfl (lv_at hl 3 rfl) ?_
      refine lv_iadd hx hb dX1_addPart_70 ?_
      refine lv_topi (fun x_271 ex_271 => ?_)
      have rg_x_271 := fb_rng x_271
      refine vz_iast hx hb hK hP hD hS 2 2 rfl rfl (ti_in rfl (by omega) (by omega)) dX1_addPart_71 (fun H locs f_272 hP hD hS => ?_)
      have hP : va_P (dC, dI) vwCl [(rC_partNodes, .inl (kC_partNodes, 72, .inl f_265)), (rC_weights, .inl (kC_weights, 72, .inl f_266)), (rC_weightSums, .inl (kC_weightSums, 18, .inl f_272)), (rC_steps, .inl (kC_steps, 18, .inl fC_steps)), (rC_below, .inl (kC_below, 18, .inl fC_below)), (rC_above, .inl (kC_above, 18, .inl fC_above)), (rC_parts, .inl (kC_parts, 18, .inl f_269)), (oC, .inr (1, [.int iC_nodes, .int iC_words, .int iC_chances, .int iC_unsures, .int iC_slips, .int iC_throneNode, .int iC_saidWorth, .int iC_unit, .ref rC_kind, .ref rC_parts, .ref rC_partNodes, .ref rC_weights, .ref rC_weightSums, .ref rC_toldWorths, .ref rC_steps, .ref rC_below, .ref rC_above, .ref rC_unsureWords, .ref rC_unsureWorths]))] H := hP
      have hD : va_D A [(rC_partNodes, .inl (kC_partNodes, 72, .inl f_265)), (rC_weights, .inl (kC_weights, 72, .inl f_266)), (rC_weightSums, .inl (kC_weightSums, 18, .inl f_272)), (rC_steps, .inl (kC_steps, 18, .inl fC_steps)), (rC_below, .inl (kC_below, 18, .inl fC_below)), (rC_above, .inl (kC_above, 18, .inl fC_above)), (rC_parts, .inl (kC_parts, 18, .inl f_269)), (oC, .inr (1, [.int iC_nodes, .int iC_words, .int iC_chances, .int iC_unsures, .int iC_slips, .int iC_throneNode, .int iC_saidWorth, .int iC_unit, .ref rC_kind, .ref rC_parts, .ref rC_partNodes, .ref rC_weights, .ref rC_weightSums, .ref rC_toldWorths, .ref rC_steps, .ref rC_below, .ref rC_above, .ref rC_unsureWords, .ref rC_unsureWorths]))] := hD
      refine lv_aload_n hx hb dX1_addPart_72 rfl (lv_at hl 1 rfl) ?_
      refine va_get (D := (dC, dI)) (ci := 1) (v := .ref rC_steps) (C := RX1) (T := TX1) (N := 19) hx hb hts inX1 hown hK hP 7 rfl rfl 14 (by decide) (hts _ wd_60) (fun _ h9 => h9) rfl dX1_addPart_73 ?_
      refine lv_aload_n hx hb dX1_addPart_76 rfl (lv_at hl 1 rfl) ?_
      refine va_get (D := (dC, dI)) (ci := 1) (v := .int iC_nodes) (C := RX1) (T := TX1) (N := 19) hx hb hts inX1 hown hK hP 7 rfl rfl 0 (by decide) (hts _ wd_215) (fun _ h9 => h9) rfl dX1_addPart_77 ?_
      refine lv_aload_n hx hb dX1_addPart_80 rfl (lv_at hl 1 rfl) ?_
      refine va_get (D := (dC, dI)) (ci := 1) (v := .ref rC_steps) (C := RX1) (T := TX1) (N := 19) hx hb hts inX1 hown hK hP 7 rfl rfl 14 (by decide) (hts _ wd_60) (fun _ h9 => h9) rfl dX1_addPart_81 ?_
      refine lv_aload_n hx hb dX1_addPart_84 rfl (lv_at hl 1 rfl) ?_
      refine va_get (D := (dC, dI)) (ci := 1) (v := .int iC_nodes) (C := RX1) (T := TX1) (N := 19) hx hb hts inX1 hown hK hP 7 rfl rfl 0 (by decide) (hts _ wd_215) (fun _ h9 => h9) rfl dX1_addPart_85 ?_
      refine va_iald hx hb hK hP 3 3 rfl rfl (ti_in rfl (by omega) (by omega)) dX1_addPart_88 ?_
      refine lv_topi (fun x_273 ex_273 => ?_)
      have rg_x_273 := fb_rng x_273
      have kx_273 : (fC_steps iC_nodes.toNatClampNeg).toInt = x_273.toInt := by rw [ex_273]
      refine lv_aload_n hx hb dX1_addPart_89 rfl (lv_at hl 1 rfl) ?_
      refine va_get (D := (dC, dI)) (ci := 1) (v := .ref rC_steps) (C := RX1) (T := TX1) (N := 19) hx hb hts inX1 hown hK hP 7 rfl rfl 14 (by decide) (hts _ wd_60) (fun _ h9 => h9) rfl dX1_addPart_90 ?_
      refine lv_iload_n hx hb dX1_addPart_93 rfl (lv_at hl 2 rfl) ?_
      refine va_iald hx hb hK hP 3 3 rfl rfl (ti_in rfl (by omega) (by omega)) dX1_addPart_94 ?_
      refine lv_topi (fun x_274 ex_274 => ?_)
      have rg_x_274 := fb_rng x_274
      have kx_274 : (fC_steps p0.toNatClampNeg).toInt = x_274.toInt := by rw [ex_274]
      refine lv_iconst (v := 1) hx hb dX1_addPart_95 (by decide) ?_
      refine lv_iadd hx hb dX1_addPart_96 ?_
      refine lv_topi (fun x_275 ex_275 => ?_)
      have rg_x_275 := fb_rng x_275
      refine va_mmax hx hb (hml.trans hl.1.symm) hown (hts _ wd_320) (hts _ wd_321) (hts _ wd_322) (hts _ wd_323) (Nat.le_of_ble_eq_true rfl) (Nat.le_of_ble_eq_true rfl) (Nat.le_of_ble_eq_true rfl) (Nat.le_of_ble_eq_true rfl) dX1_addPart_97 ?_
      refine lv_topi (fun x_276 ex_276 => ?_)
      have rg_x_276 := fb_rng x_276
      have qx_276 := ti_max ex_276 rfl rfl
      refine vz_iast hx hb hK hP hD hS 3 3 rfl rfl (ti_in rfl (by omega) (by omega)) dX1_addPart_100 (fun H locs f_277 hP hD hS => ?_)
      have hP : va_P (dC, dI) vwCl [(rC_partNodes, .inl (kC_partNodes, 72, .inl f_265)), (rC_weights, .inl (kC_weights, 72, .inl f_266)), (rC_weightSums, .inl (kC_weightSums, 18, .inl f_272)), (rC_steps, .inl (kC_steps, 18, .inl f_277)), (rC_below, .inl (kC_below, 18, .inl fC_below)), (rC_above, .inl (kC_above, 18, .inl fC_above)), (rC_parts, .inl (kC_parts, 18, .inl f_269)), (oC, .inr (1, [.int iC_nodes, .int iC_words, .int iC_chances, .int iC_unsures, .int iC_slips, .int iC_throneNode, .int iC_saidWorth, .int iC_unit, .ref rC_kind, .ref rC_parts, .ref rC_partNodes, .ref rC_weights, .ref rC_weightSums, .ref rC_toldWorths, .ref rC_steps, .ref rC_below, .ref rC_above, .ref rC_unsureWords, .ref rC_unsureWorths]))] H := hP
      have hD : va_D A [(rC_partNodes, .inl (kC_partNodes, 72, .inl f_265)), (rC_weights, .inl (kC_weights, 72, .inl f_266)), (rC_weightSums, .inl (kC_weightSums, 18, .inl f_272)), (rC_steps, .inl (kC_steps, 18, .inl f_277)), (rC_below, .inl (kC_below, 18, .inl fC_below)), (rC_above, .inl (kC_above, 18, .inl fC_above)), (rC_parts, .inl (kC_parts, 18, .inl f_269)), (oC, .inr (1, [.int iC_nodes, .int iC_words, .int iC_chances, .int iC_unsures, .int iC_slips, .int iC_throneNode, .int iC_saidWorth, .int iC_unit, .ref rC_kind, .ref rC_parts, .ref rC_partNodes, .ref rC_weights, .ref rC_weightSums, .ref rC_toldWorths, .ref rC_steps, .ref rC_below, .ref rC_above, .ref rC_unsureWords, .ref rC_unsureWorths]))] := hD
      refine lv_aload_n hx hb dX1_addPart_101 rfl (lv_at hl 1 rfl) ?_
      refine va_get (D := (dC, dI)) (ci := 1) (v := .ref rC_below) (C := RX1) (T := TX1) (N := 19) hx hb hts inX1 hown hK hP 7 rfl rfl 15 (by decide) (hts _ wd_61) (fun _ h9 => h9) rfl dX1_addPart_102 ?_
      refine lv_aload_n hx hb dX1_addPart_105 rfl (lv_at hl 1 rfl) ?_
      refine va_get (D := (dC, dI)) (ci := 1) (v := .int iC_nodes) (C := RX1) (T := TX1) (N := 19) hx hb hts inX1 hown hK hP 7 rfl rfl 0 (by decide) (hts _ wd_215) (fun _ h9 => h9) rfl dX1_addPart_106 ?_
      refine lv_dup2_11 hx hb dX1_addPart_109 rfl rfl ?_
      refine va_iald hx hb hK hP 4 4 rfl rfl (ti_in rfl (by omega) (by omega)) dX1_addPart_110 ?_
      refine lv_topi (fun x_278 ex_278 => ?_)
      have rg_x_278 := fb_rng x_278
      have kx_278 : (fC_below iC_nodes.toNatClampNeg).toInt = x_278.toInt := by rw [ex_278]
      refine lv_aload_n hx hb dX1_addPart_111 rfl (lv_at hl 1 rfl) ?_
      refine va_get (D := (dC, dI)) (ci := 1) (v := .ref rC_below) (C := RX1) (T := TX1) (N := 19) hx hb hts inX1 hown hK hP 7 rfl rfl 15 (by decide) (hts _ wd_61) (fun _ h9 => h9) rfl dX1_addPart_112 ?_
      refine lv_iload_n hx hb dX1_addPart_115 rfl (lv_at hl 2 rfl) ?_
      refine va_iald hx hb hK hP 4 4 rfl rfl (ti_in rfl (by omega) (by omega)) dX1_addPart_116 ?_
      refine lv_topi (fun x_279 ex_279 => ?_)
      have rg_x_279 := fb_rng x_279
      have kx_279 : (fC_below p0.toNatClampNeg).toInt = x_279.toInt := by rw [ex_279]
      refine lv_ior hx hb dX1_addPart_117 ?_
      refine lv_topi (fun x_280 ex_280 => ?_)
      have rg_x_280 := fb_rng x_280
      refine vz_iast hx hb hK hP hD hS 4 4 rfl rfl (ti_in rfl (by omega) (by omega)) dX1_addPart_118 (fun H locs f_281 hP hD hS => ?_)
      have hP : va_P (dC, dI) vwCl [(rC_partNodes, .inl (kC_partNodes, 72, .inl f_265)), (rC_weights, .inl (kC_weights, 72, .inl f_266)), (rC_weightSums, .inl (kC_weightSums, 18, .inl f_272)), (rC_steps, .inl (kC_steps, 18, .inl f_277)), (rC_below, .inl (kC_below, 18, .inl f_281)), (rC_above, .inl (kC_above, 18, .inl fC_above)), (rC_parts, .inl (kC_parts, 18, .inl f_269)), (oC, .inr (1, [.int iC_nodes, .int iC_words, .int iC_chances, .int iC_unsures, .int iC_slips, .int iC_throneNode, .int iC_saidWorth, .int iC_unit, .ref rC_kind, .ref rC_parts, .ref rC_partNodes, .ref rC_weights, .ref rC_weightSums, .ref rC_toldWorths, .ref rC_steps, .ref rC_below, .ref rC_above, .ref rC_unsureWords, .ref rC_unsureWorths]))] H := hP
      have hD : va_D A [(rC_partNodes, .inl (kC_partNodes, 72, .inl f_265)), (rC_weights, .inl (kC_weights, 72, .inl f_266)), (rC_weightSums, .inl (kC_weightSums, 18, .inl f_272)), (rC_steps, .inl (kC_steps, 18, .inl f_277)), (rC_below, .inl (kC_below, 18, .inl f_281)), (rC_above, .inl (kC_above, 18, .inl fC_above)), (rC_parts, .inl (kC_parts, 18, .inl f_269)), (oC, .inr (1, [.int iC_nodes, .int iC_words, .int iC_chances, .int iC_unsures, .int iC_slips, .int iC_throneNode, .int iC_saidWorth, .int iC_unit, .ref rC_kind, .ref rC_parts, .ref rC_partNodes, .ref rC_weights, .ref rC_weightSums, .ref rC_toldWorths, .ref rC_steps, .ref rC_below, .ref rC_above, .ref rC_unsureWords, .ref rC_unsureWorths]))] := hD
      refine lv_aload_n hx hb dX1_addPart_119 rfl (lv_at hl 1 rfl) ?_
      refine va_get (D := (dC, dI)) (ci := 1) (v := .ref rC_above) (C := RX1) (T := TX1) (N := 19) hx hb hts inX1 hown hK hP 7 rfl rfl 16 (by decide) (hts _ wd_62) (fun _ h9 => h9) rfl dX1_addPart_120 ?_
      refine lv_iload_n hx hb dX1_addPart_123 rfl (lv_at hl 2 rfl) ?_
      refine lv_dup2_11 hx hb dX1_addPart_124 rfl rfl ?_
      refine va_iald hx hb hK hP 5 5 rfl rfl (ti_in rfl (by omega) (by omega)) dX1_addPart_125 ?_
      refine lv_topi (fun x_282 ex_282 => ?_)
      have rg_x_282 := fb_rng x_282
      have kx_282 : (fC_above p0.toNatClampNeg).toInt = x_282.toInt := by rw [ex_282]
      refine lv_iconst (v := 1) hx hb dX1_addPart_126 (by decide) ?_
      refine lv_aload_n hx hb dX1_addPart_127 rfl (lv_at hl 1 rfl) ?_
      refine va_get (D := (dC, dI)) (ci := 1) (v := .int iC_nodes) (C := RX1) (T := TX1) (N := 19) hx hb hts inX1 hown hK hP 7 rfl rfl 0 (by decide) (hts _ wd_215) (fun _ h9 => h9) rfl dX1_addPart_128 ?_
      refine lv_ishl hx hb dX1_addPart_131 ?_
      refine lv_topi (fun x_283 ex_283 => ?_)
      have rg_x_283 := fb_rng x_283
      refine lv_ior hx hb dX1_addPart_132 ?_
      refine lv_topi (fun x_284 ex_284 => ?_)
      have rg_x_284 := fb_rng x_284
      refine vz_iast hx hb hK hP hD hS 5 5 rfl rfl (ti_in rfl (by omega) (by omega)) dX1_addPart_133 (fun H locs f_285 hP hD hS => ?_)
      have hP : va_P (dC, dI) vwCl [(rC_partNodes, .inl (kC_partNodes, 72, .inl f_265)), (rC_weights, .inl (kC_weights, 72, .inl f_266)), (rC_weightSums, .inl (kC_weightSums, 18, .inl f_272)), (rC_steps, .inl (kC_steps, 18, .inl f_277)), (rC_below, .inl (kC_below, 18, .inl f_281)), (rC_above, .inl (kC_above, 18, .inl f_285)), (rC_parts, .inl (kC_parts, 18, .inl f_269)), (oC, .inr (1, [.int iC_nodes, .int iC_words, .int iC_chances, .int iC_unsures, .int iC_slips, .int iC_throneNode, .int iC_saidWorth, .int iC_unit, .ref rC_kind, .ref rC_parts, .ref rC_partNodes, .ref rC_weights, .ref rC_weightSums, .ref rC_toldWorths, .ref rC_steps, .ref rC_below, .ref rC_above, .ref rC_unsureWords, .ref rC_unsureWorths]))] H := hP
      have hD : va_D A [(rC_partNodes, .inl (kC_partNodes, 72, .inl f_265)), (rC_weights, .inl (kC_weights, 72, .inl f_266)), (rC_weightSums, .inl (kC_weightSums, 18, .inl f_272)), (rC_steps, .inl (kC_steps, 18, .inl f_277)), (rC_below, .inl (kC_below, 18, .inl f_281)), (rC_above, .inl (kC_above, 18, .inl f_285)), (rC_parts, .inl (kC_parts, 18, .inl f_269)), (oC, .inr (1, [.int iC_nodes, .int iC_words, .int iC_chances, .int iC_unsures, .int iC_slips, .int iC_throneNode, .int iC_saidWorth, .int iC_unit, .ref rC_kind, .ref rC_parts, .ref rC_partNodes, .ref rC_weights, .ref rC_weightSums, .ref rC_toldWorths, .ref rC_steps, .ref rC_below, .ref rC_above, .ref rC_unsureWords, .ref rC_unsureWorths]))] := hD
      have hP9 := hP.sub (ws' := [(oC, .inr (1, [.int iC_nodes, .int iC_words, .int iC_chances, .int iC_unsures, .int iC_slips, .int iC_throneNode, .int iC_saidWorth, .int iC_unit, .ref rC_kind, .ref rC_parts, .ref rC_partNodes, .ref rC_weights, .ref rC_weightSums, .ref rC_toldWorths, .ref rC_steps, .ref rC_below, .ref rC_above, .ref rC_unsureWords, .ref rC_unsureWorths])), (rC_parts, .inl (kC_parts, 18, .inl f_269)), (rC_partNodes, .inl (kC_partNodes, 72, .inl f_265)), (rC_weights, .inl (kC_weights, 72, .inl f_266)), (rC_weightSums, .inl (kC_weightSums, 18, .inl f_272)), (rC_steps, .inl (kC_steps, 18, .inl f_277)), (rC_below, .inl (kC_below, 18, .inl f_281)), (rC_above, .inl (kC_above, 18, .inl f_285))]) [7, 6, 0, 1, 2, 3, 4, 5] rfl
      have hD9 := hD.sub (ws' := [(oC, .inr (1, [.int iC_nodes, .int iC_words, .int iC_chances, .int iC_unsures, .int iC_slips, .int iC_throneNode, .int iC_saidWorth, .int iC_unit, .ref rC_kind, .ref rC_parts, .ref rC_partNodes, .ref rC_weights, .ref rC_weightSums, .ref rC_toldWorths, .ref rC_steps, .ref rC_below, .ref rC_above, .ref rC_unsureWords, .ref rC_unsureWorths])), (rC_parts, .inl (kC_parts, 18, .inl f_269)), (rC_partNodes, .inl (kC_partNodes, 72, .inl f_265)), (rC_weights, .inl (kC_weights, 72, .inl f_266)), (rC_weightSums, .inl (kC_weightSums, 18, .inl f_272)), (rC_steps, .inl (kC_steps, 18, .inl f_277)), (rC_below, .inl (kC_below, 18, .inl f_281)), (rC_above, .inl (kC_above, 18, .inl f_285))]) [7, 6, 0, 1, 2, 3, 4, 5] (by decide) rfl
      have hK9 := hK.sub (tys' := [(kC_parts, .int), (kC_partNodes, .int), (kC_weights, .int), (kC_weightSums, .int), (kC_steps, .int), (kC_below, .int), (kC_above, .int)]) [6, 0, 1, 2, 3, 4, 5] rfl
      exact W.vret hx hb hr (fun t ht hW => ⟨⟨0, rfl, trivial, ⟨f_269, f_265, f_266, f_272, f_277, f_281, f_285, a_f_269, a_f_265, Bw.to hP9 hD9 hK9 ht hW⟩⟩, hS.F ht⟩) hS.2.2 dX1_addPart_134
    · skip
      refine lv_if_eq (tgt := 134) hx hb dX1_addPart_12 (by decide) (fun _ => ?_) (fun c => absurd c (by decide))
      have hP9 := hP.sub (ws' := [(oC, .inr (1, [.int iC_nodes, .int iC_words, .int iC_chances, .int iC_unsures, .int iC_slips, .int iC_throneNode, .int iC_saidWorth, .int iC_unit, .ref rC_kind, .ref rC_parts, .ref rC_partNodes, .ref rC_weights, .ref rC_weightSums, .ref rC_toldWorths, .ref rC_steps, .ref rC_below, .ref rC_above, .ref rC_unsureWords, .ref rC_unsureWorths])), (rC_parts, .inl (kC_parts, 18, .inl fC_parts)), (rC_partNodes, .inl (kC_partNodes, 72, .inl fC_partNodes)), (rC_weights, .inl (kC_weights, 72, .inl fC_weights)), (rC_weightSums, .inl (kC_weightSums, 18, .inl fC_weightSums)), (rC_steps, .inl (kC_steps, 18, .inl fC_steps)), (rC_below, .inl (kC_below, 18, .inl fC_below)), (rC_above, .inl (kC_above, 18, .inl fC_above))]) [7, 6, 0, 1, 2, 3, 4, 5] rfl
      have hD9 := hD.sub (ws' := [(oC, .inr (1, [.int iC_nodes, .int iC_words, .int iC_chances, .int iC_unsures, .int iC_slips, .int iC_throneNode, .int iC_saidWorth, .int iC_unit, .ref rC_kind, .ref rC_parts, .ref rC_partNodes, .ref rC_weights, .ref rC_weightSums, .ref rC_toldWorths, .ref rC_steps, .ref rC_below, .ref rC_above, .ref rC_unsureWords, .ref rC_unsureWorths])), (rC_parts, .inl (kC_parts, 18, .inl fC_parts)), (rC_partNodes, .inl (kC_partNodes, 72, .inl fC_partNodes)), (rC_weights, .inl (kC_weights, 72, .inl fC_weights)), (rC_weightSums, .inl (kC_weightSums, 18, .inl fC_weightSums)), (rC_steps, .inl (kC_steps, 18, .inl fC_steps)), (rC_below, .inl (kC_below, 18, .inl fC_below)), (rC_above, .inl (kC_above, 18, .inl fC_above))]) [7, 6, 0, 1, 2, 3, 4, 5] (by decide) rfl
      have hK9 := hK.sub (tys' := [(kC_parts, .int), (kC_partNodes, .int), (kC_weights, .int), (kC_weightSums, .int), (kC_steps, .int), (kC_below, .int), (kC_above, .int)]) [6, 0, 1, 2, 3, 4, 5] rfl
      exact W.vret hx hb hr (fun t ht hW => ⟨⟨0, rfl, trivial, ⟨fC_parts, fC_partNodes, fC_weights, fC_weightSums, fC_steps, fC_below, fC_above, a_fC_parts, a_fC_partNodes, Bw.to hP9 hD9 hK9 ht hW⟩⟩, hS.F ht⟩) hS.2.2 dX1_addPart_134
  · skip
    refine lv_if_eq (tgt := 134) hx hb dX1_addPart_4 (by decide) (fun _ => ?_) (fun c => absurd c (by decide))
    have hP9 := hP.sub (ws' := [(oC, .inr (1, [.int iC_nodes, .int iC_words, .int iC_chances, .int iC_unsures, .int iC_slips, .int iC_throneNode, .int iC_saidWorth, .int iC_unit, .ref rC_kind, .ref rC_parts, .ref rC_partNodes, .ref rC_weights, .ref rC_weightSums, .ref rC_toldWorths, .ref rC_steps, .ref rC_below, .ref rC_above, .ref rC_unsureWords, .ref rC_unsureWorths])), (rC_parts, .inl (kC_parts, 18, .inl fC_parts)), (rC_partNodes, .inl (kC_partNodes, 72, .inl fC_partNodes)), (rC_weights, .inl (kC_weights, 72, .inl fC_weights)), (rC_weightSums, .inl (kC_weightSums, 18, .inl fC_weightSums)), (rC_steps, .inl (kC_steps, 18, .inl fC_steps)), (rC_below, .inl (kC_below, 18, .inl fC_below)), (rC_above, .inl (kC_above, 18, .inl fC_above))]) [6, 7, 0, 1, 2, 3, 4, 5] rfl
    have hD9 := hD.sub (ws' := [(oC, .inr (1, [.int iC_nodes, .int iC_words, .int iC_chances, .int iC_unsures, .int iC_slips, .int iC_throneNode, .int iC_saidWorth, .int iC_unit, .ref rC_kind, .ref rC_parts, .ref rC_partNodes, .ref rC_weights, .ref rC_weightSums, .ref rC_toldWorths, .ref rC_steps, .ref rC_below, .ref rC_above, .ref rC_unsureWords, .ref rC_unsureWorths])), (rC_parts, .inl (kC_parts, 18, .inl fC_parts)), (rC_partNodes, .inl (kC_partNodes, 72, .inl fC_partNodes)), (rC_weights, .inl (kC_weights, 72, .inl fC_weights)), (rC_weightSums, .inl (kC_weightSums, 18, .inl fC_weightSums)), (rC_steps, .inl (kC_steps, 18, .inl fC_steps)), (rC_below, .inl (kC_below, 18, .inl fC_below)), (rC_above, .inl (kC_above, 18, .inl fC_above))]) [6, 7, 0, 1, 2, 3, 4, 5] (by decide) rfl
    have hK9 := hK.sub (tys' := [(kC_parts, .int), (kC_partNodes, .int), (kC_weights, .int), (kC_weightSums, .int), (kC_steps, .int), (kC_below, .int), (kC_above, .int)]) [6, 0, 1, 2, 3, 4, 5] rfl
    exact W.vret hx hb hr (fun t ht hW => ⟨⟨0, rfl, trivial, ⟨fC_parts, fC_partNodes, fC_weights, fC_weightSums, fC_steps, fC_below, fC_above, a_fC_parts, a_fC_partNodes, Bw.to hP9 hD9 hK9 ht hW⟩⟩, hS.F ht⟩) hS.2.2 dX1_addPart_134
set_option maxHeartbeats 4000000 in
set_option maxRecDepth 100000 in
theorem tX1_likelihood (l : Launch) (dC : Nat → ClassId) (dI : Nat → Nat → Nat) (sz : Nat) (oC : Nat) (iC_nodes : Int32) (iC_words : Int32) (iC_chances : Int32) (iC_unsures : Int32) (iC_slips : Int32) (iC_throneNode : Int32) (iC_saidWorth : Int32) (iC_unit : Int32) (rC_kind : Nat) (rC_parts : Nat) (rC_partNodes : Nat) (rC_weights : Nat) (rC_weightSums : Nat) (rC_toldWorths : Nat) (rC_steps : Nat) (rC_below : Nat) (rC_above : Nat) (rC_unsureWords : Nat) (rC_unsureWorths : Nat) (p0 : Int32) (b_iC_nodes : 0 ≤ iC_nodes.toInt ∧ iC_nodes.toInt ≤ 18) (b_iC_unsures : 0 ≤ iC_unsures.toInt ∧ iC_unsures.toInt ≤ 4) (b_iC_throneNode : (-1) ≤ iC_throneNode.toInt ∧ iC_throneNode.toInt ≤ 17)  : Met l yX1_likelihood (Cond.code yX1_likelihood cX1_likelihood 5 (some .long) :: wG) ({ frames := 0, cells := 0, slots := 0, locals := 0 }) (va_Pc [.ref oC, .int p0] (Pw dC dI sz [(oC, .inr (1, [.int iC_nodes, .int iC_words, .int iC_chances, .int iC_unsures, .int iC_slips, .int iC_throneNode, .int iC_saidWorth, .int iC_unit, .ref rC_kind, .ref rC_parts, .ref rC_partNodes, .ref rC_weights, .ref rC_weightSums, .ref rC_toldWorths, .ref rC_steps, .ref rC_below, .ref rC_above, .ref rC_unsureWords, .ref rC_unsureWorths]))] [])) (va_Ql (fun (r : Int64) (_ : Nat) => True ∧ True) (fun (_ : Nat) (t : State) => Bw dC dI (va_A [(oC, .inr (1, [.int iC_nodes, .int iC_words, .int iC_chances, .int iC_unsures, .int iC_slips, .int iC_throneNode, .int iC_saidWorth, .int iC_unit, .ref rC_kind, .ref rC_parts, .ref rC_partNodes, .ref rC_weights, .ref rC_weightSums, .ref rC_toldWorths, .ref rC_steps, .ref rC_below, .ref rC_above, .ref rC_unsureWords, .ref rC_unsureWorths]))] sz) [(oC, .inr (1, [.int iC_nodes, .int iC_words, .int iC_chances, .int iC_unsures, .int iC_slips, .int iC_throneNode, .int iC_saidWorth, .int iC_unit, .ref rC_kind, .ref rC_parts, .ref rC_partNodes, .ref rC_weights, .ref rC_weightSums, .ref rC_toldWorths, .ref rC_steps, .ref rC_below, .ref rC_above, .ref rC_unsureWords, .ref rC_unsureWorths]))] [] t) (va_A [(oC, .inr (1, [.int iC_nodes, .int iC_words, .int iC_chances, .int iC_unsures, .int iC_slips, .int iC_throneNode, .int iC_saidWorth, .int iC_unit, .ref rC_kind, .ref rC_parts, .ref rC_partNodes, .ref rC_weights, .ref rC_weightSums, .ref rC_toldWorths, .ref rC_steps, .ref rC_below, .ref rC_above, .ref rC_unsureWords, .ref rC_unsureWorths]))] sz)) 0 0 (va_A [(oC, .inr (1, [.int iC_nodes, .int iC_words, .int iC_chances, .int iC_unsures, .int iC_slips, .int iC_throneNode, .int iC_saidWorth, .int iC_unit, .ref rC_kind, .ref rC_parts, .ref rC_partNodes, .ref rC_weights, .ref rC_weightSums, .ref rC_toldWorths, .ref rC_steps, .ref rC_below, .ref rC_above, .ref rC_unsureWords, .ref rC_unsureWorths]))] sz) := by
  refine Met.ofW (cc := cX1_likelihood) (maxL := 5) (ret := (some .long)) (by decide) rfl ?_
  intro p e s m args below meth c s₁ B hml hv
  obtain ⟨rfl, hsz, hP, hK, hD0, hE⟩ := hv
  have hx := B.exec
  have hb := B.bytes
  have hr := B.returns
  have hts : ∀ w ∈ wG, w.before ([.ref oC, .int p0] : List Value).toArray s = true := fun w h => atoms_spec (ws := Cond.code yX1_likelihood cX1_likelihood 5 (some .long) :: wG) B.pre w (List.mem_cons_of_mem _ h)
  have hown : s.vm.findClass RX1 = some m.cls := findClass_of_methodNamed B.named
  have hlocks := B.notSynchronized
  subst hsz
  have hD := hD0.self (sz := s.heap.size)
  generalize hAe : va_A [(oC, .inr (1, [.int iC_nodes, .int iC_words, .int iC_chances, .int iC_unsures, .int iC_slips, .int iC_throneNode, .int iC_saidWorth, .int iC_unit, .ref rC_kind, .ref rC_parts, .ref rC_partNodes, .ref rC_weights, .ref rC_weightSums, .ref rC_toldWorths, .ref rC_steps, .ref rC_below, .ref rC_above, .ref rC_unsureWords, .ref rC_unsureWorths]))] s.heap.size = A at hD hE ⊢
  have hA : ∀ q : Nat, s.heap.size ≤ q → A q := fun q h => by rw [← hAe]; exact Or.inr h
  have hS : va_S A s.heap s.heap [] := va_S.rf
  have hl := lv_entry ([.ref oC, .int p0]) (n := 5) (Nat.le_of_ble_eq_true rfl)
  rw [lg_entry_eq]
  generalize (lg_sl ([.ref oC, .int p0]) ++ List.replicate (5 - (lg_sl ([.ref oC, .int p0])).length) Slot.unset).toArray = ls at hl ⊢
  have hl : lv_has ls 5 [(0, .ref oC), (1, .int p0)] := hl
  have rg_p0 := fb_rng p0
  refine lv_lconst (v := 1) hx hb dX1_likelihood_0 (by decide) ?_
  refine lv_lstore_n (lv' := [(2, .long 1), (0, .ref oC), (1, .int p0)]) hx hb dX1_likelihood_1 rfl hl (by decide) rfl (fun ls hl => ?_)
  refine lv_iconst (v := 0) hx hb dX1_likelihood_2 (by decide) ?_
  refine lv_istore (lv' := [(4, .int 0), (2, .long 1), (0, .ref oC), (1, .int p0)]) hx hb dX1_likelihood_3 hl (by decide) rfl (fun ls hl => ?_)
  have hl := lv_sub hl (l' := [(4, .int 0), (2, .long 1), (0, .ref oC), (1, .int p0)]) [0, 1, 2, 3] rfl
  have key_n_314 : ∀ (n_314 : Nat) (z_312 : Int32) (z_313 : Int64) (H : Heap) (locs : List Loc) (ls : Array Slot), (0 ≤ z_312.toInt ∧ z_312.toInt ≤ 2147483647) → (2147483647 - z_312.toInt).toNat < n_314 → va_P (dC, dI) vwCl [(oC, .inr (1, [.int iC_nodes, .int iC_words, .int iC_chances, .int iC_unsures, .int iC_slips, .int iC_throneNode, .int iC_saidWorth, .int iC_unit, .ref rC_kind, .ref rC_parts, .ref rC_partNodes, .ref rC_weights, .ref rC_weightSums, .ref rC_toldWorths, .ref rC_steps, .ref rC_below, .ref rC_above, .ref rC_unsureWords, .ref rC_unsureWorths]))] H → va_D A [(oC, .inr (1, [.int iC_nodes, .int iC_words, .int iC_chances, .int iC_unsures, .int iC_slips, .int iC_throneNode, .int iC_saidWorth, .int iC_unit, .ref rC_kind, .ref rC_parts, .ref rC_partNodes, .ref rC_weights, .ref rC_weightSums, .ref rC_toldWorths, .ref rC_steps, .ref rC_below, .ref rC_above, .ref rC_unsureWords, .ref rC_unsureWorths]))] → va_S A s.heap H locs → lv_has ls 5 [(4, .int z_312), (2, .long z_313), (0, .ref oC), (1, .int p0)] → W p l e (headSpec (Cond.code yX1_likelihood cX1_likelihood 5 (some .long) :: wG) ({ frames := 0, cells := 0, slots := 0, locals := 0 })).room s m ([.ref oC, .int p0] : List Value).toArray below meth c H locs 0 0 (MQ below (va_Ql (fun (r : Int64) (_ : Nat) => True ∧ True) (fun (_ : Nat) (t : State) => Bw dC dI A [(oC, .inr (1, [.int iC_nodes, .int iC_words, .int iC_chances, .int iC_unsures, .int iC_slips, .int iC_throneNode, .int iC_saidWorth, .int iC_unit, .ref rC_kind, .ref rC_parts, .ref rC_partNodes, .ref rC_weights, .ref rC_weightSums, .ref rC_toldWorths, .ref rC_steps, .ref rC_below, .ref rC_above, .ref rC_unsureWords, .ref rC_unsureWorths]))] [] t) A) ([.ref oC, .int p0] : List Value).toArray s 0 0 A) (F0 m 5 ls []) := by
    intro n_314
    induction n_314 with
    | zero => intro z_312 z_313 H locs ls hi0_n_314 hm; exact absurd hm (by omega)
    | succ n_314 ih_n_314 =>
      intro z_312 z_313 H locs ls hi0_n_314 hm hP hD hS hl
      have rg_z_312 := fb_rng z_312
      refine lv_iload hx hb dX1_likelihood_5 (lv_at hl 0 rfl) ?_
      refine lv_aload_n hx hb dX1_likelihood_7 rfl (lv_at hl 2 rfl) ?_
      refine va_get (D := (dC, dI)) (ci := 1) (v := .int iC_unsures) (C := RX1) (T := TX1) (N := 19) hx hb hts inX1 hown hK hP 0 rfl rfl 3 (by decide) (hts _ wd_218) (fun _ h9 => h9) rfl dX1_likelihood_8 ?_
      have rg_iC_unsures := fb_rng iC_unsures
      refine lv_icmp_ge (tgt := 49) hx hb dX1_likelihood_11 (by decide) (fun c_315 => ?_) (fun c_315 => ?_)
      · skip
        have gc_315 := ti_le c_315 rfl rfl
        refine lv_lload_n hx hb dX1_likelihood_49 rfl (lv_at hl 1 rfl) ?_
        have hP9 := hP.sub (ws' := [(oC, .inr (1, [.int iC_nodes, .int iC_words, .int iC_chances, .int iC_unsures, .int iC_slips, .int iC_throneNode, .int iC_saidWorth, .int iC_unit, .ref rC_kind, .ref rC_parts, .ref rC_partNodes, .ref rC_weights, .ref rC_weightSums, .ref rC_toldWorths, .ref rC_steps, .ref rC_below, .ref rC_above, .ref rC_unsureWords, .ref rC_unsureWorths]))]) [0] rfl
        have hD9 := hD.sub (ws' := [(oC, .inr (1, [.int iC_nodes, .int iC_words, .int iC_chances, .int iC_unsures, .int iC_slips, .int iC_throneNode, .int iC_saidWorth, .int iC_unit, .ref rC_kind, .ref rC_parts, .ref rC_partNodes, .ref rC_weights, .ref rC_weightSums, .ref rC_toldWorths, .ref rC_steps, .ref rC_below, .ref rC_above, .ref rC_unsureWords, .ref rC_unsureWorths]))]) [0] (by decide) rfl
        have hK9 := hK.sub (tys' := []) [] rfl
        exact W.lret hx hb hr (fun t ht hW => ⟨⟨_, 0, rfl, ⟨trivial, trivial⟩, Bw.to hP9 hD9 hK9 ht hW⟩, hS.F ht⟩) hS.2.2 dX1_likelihood_50
      · skip
        have gc_315 := ti_nle c_315 rfl rfl
        refine lv_lload_n hx hb dX1_likelihood_14 rfl (lv_at hl 1 rfl) ?_
        refine lv_iload_n hx hb dX1_likelihood_15 rfl (lv_at hl 3 rfl) ?_
        refine lv_iload hx hb dX1_likelihood_16 (lv_at hl 0 rfl) ?_
        refine lv_ishr hx hb dX1_likelihood_18 ?_
        refine lv_topi (fun x_316 ex_316 => ?_)
        have rg_x_316 := fb_rng x_316
        refine lv_iconst (v := 1) hx hb dX1_likelihood_19 (by decide) ?_
        refine lv_iand hx hb dX1_likelihood_20 ?_
        refine lv_topi (fun x_317 ex_317 => ?_)
        have rg_x_317 := fb_rng x_317
        refine lv_iconst (v := 1) hx hb dX1_likelihood_21 (by decide) ?_
        refine lv_icmp_ne (tgt := 33) hx hb dX1_likelihood_22 (by decide) (fun c_318 => ?_) (fun c_318 => ?_)
        · skip
          have gc_318 := ti_ne c_318 rfl kc_1
          refine lv_bipush (v := 100) hx hb dX1_likelihood_33 (by decide) ?_
          refine lv_aload_n hx hb dX1_likelihood_35 rfl (lv_at hl 2 rfl) ?_
          refine va_get (D := (dC, dI)) (ci := 1) (v := .int iC_slips) (C := RX1) (T := TX1) (N := 19) hx hb hts inX1 hown hK hP 0 rfl rfl 4 (by decide) (hts _ wd_219) (fun _ h9 => h9) rfl dX1_likelihood_36 ?_
          have rg_iC_slips := fb_rng iC_slips
          refine lv_isub hx hb dX1_likelihood_39 ?_
          refine lv_topi (fun x_319 ex_319 => ?_)
          have rg_x_319 := fb_rng x_319
          obtain ⟨y_320, ey_320⟩ : ∃ z : Int64, z = (x_319 : Int32).toInt64 := ⟨_, rfl⟩
          refine lv_i2l (v := y_320) hx hb dX1_likelihood_40 ey_320.symm ?_
          refine lv_lmul hx hb dX1_likelihood_41 ?_
          refine lv_topl (fun y_321 ey_321 => ?_)
          refine lv_lstore_n (lv' := [(2, .long y_321), (4, .int z_312), (0, .ref oC), (1, .int p0)]) hx hb dX1_likelihood_42 rfl hl (by decide) rfl (fun ls hl => ?_)
          obtain ⟨x_322, ex_322⟩ : ∃ z : Int32, z = z_312 + Int32.ofInt 1 := ⟨_, rfl⟩
          have vx_322 : x_322.toInt = z_312.toInt + 1 := by have q := ti_add (y := 1) ex_322 rfl kc_1 (by omega) (by omega); omega
          refine lv_iinc (v := x_322) (lv' := [(4, .int x_322), (2, .long y_321), (0, .ref oC), (1, .int p0)]) hx hb dX1_likelihood_43 hl (k := 1) rfl ex_322.symm (by decide) rfl (fun ls hl => ?_)
          refine lv_goto (tgt := 5) hx hb dX1_likelihood_46 (by decide) ?_
          exact ih_n_314 x_322 y_321 _ _ _  (by first | omega | decide | assumption) (by omega) (hP.sub [0] rfl) (hD.sub [0] (by decide) rfl) hS (lv_sub hl [0, 1, 2, 3] rfl)
        · skip
          have gc_318 := ti_eq c_318 rfl kc_1
          refine lv_aload_n hx hb dX1_likelihood_25 rfl (lv_at hl 2 rfl) ?_
          refine va_get (D := (dC, dI)) (ci := 1) (v := .int iC_slips) (C := RX1) (T := TX1) (N := 19) hx hb hts inX1 hown hK hP 0 rfl rfl 4 (by decide) (hts _ wd_219) (fun _ h9 => h9) rfl dX1_likelihood_26 ?_
          have rg_iC_slips := fb_rng iC_slips
          obtain ⟨y_323, ey_323⟩ : ∃ z : Int64, z = (iC_slips : Int32).toInt64 := ⟨_, rfl⟩
          refine lv_i2l (v := y_323) hx hb dX1_likelihood_29 ey_323.symm ?_
          refine lv_goto (tgt := 41) hx hb dX1_likelihood_30 (by decide) ?_
          refine lv_lmul hx hb dX1_likelihood_41 ?_
          refine lv_topl (fun y_324 ey_324 => ?_)
          refine lv_lstore_n (lv' := [(2, .long y_324), (4, .int z_312), (0, .ref oC), (1, .int p0)]) hx hb dX1_likelihood_42 rfl hl (by decide) rfl (fun ls hl => ?_)
          obtain ⟨x_325, ex_325⟩ : ∃ z : Int32, z = z_312 + Int32.ofInt 1 := ⟨_, rfl⟩
          have vx_325 : x_325.toInt = z_312.toInt + 1 := by have q := ti_add (y := 1) ex_325 rfl kc_1 (by omega) (by omega); omega
          refine lv_iinc (v := x_325) (lv' := [(4, .int x_325), (2, .long y_324), (0, .ref oC), (1, .int p0)]) hx hb dX1_likelihood_43 hl (k := 1) rfl ex_325.symm (by decide) rfl (fun ls hl => ?_)
          refine lv_goto (tgt := 5) hx hb dX1_likelihood_46 (by decide) ?_
          exact ih_n_314 x_325 y_324 _ _ _  (by first | omega | decide | assumption) (by omega) (hP.sub [0] rfl) (hD.sub [0] (by decide) rfl) hS (lv_sub hl [0, 1, 2, 3] rfl)
  exact key_n_314 ((2147483647 - (0 : Int32).toInt).toNat + 1) 0 1 _ _ _  (by first | omega | decide | assumption | (have q0 := kc_0; have q1 := kc_1; omega)) (by omega) hP hD hS hl
set_option maxHeartbeats 4000000 in
set_option maxRecDepth 100000 in
theorem tX1_allLikelihood (l : Launch) (dC : Nat → ClassId) (dI : Nat → Nat → Nat) (sz : Nat) (oC : Nat) (iC_nodes : Int32) (iC_words : Int32) (iC_chances : Int32) (iC_unsures : Int32) (iC_slips : Int32) (iC_throneNode : Int32) (iC_saidWorth : Int32) (iC_unit : Int32) (rC_kind : Nat) (rC_parts : Nat) (rC_partNodes : Nat) (rC_weights : Nat) (rC_weightSums : Nat) (rC_toldWorths : Nat) (rC_steps : Nat) (rC_below : Nat) (rC_above : Nat) (rC_unsureWords : Nat) (rC_unsureWorths : Nat) (b_iC_nodes : 0 ≤ iC_nodes.toInt ∧ iC_nodes.toInt ≤ 18) (b_iC_unsures : 0 ≤ iC_unsures.toInt ∧ iC_unsures.toInt ≤ 4) (b_iC_throneNode : (-1) ≤ iC_throneNode.toInt ∧ iC_throneNode.toInt ≤ 17)  : Met l yX1_allLikelihood (Cond.code yX1_allLikelihood cX1_allLikelihood 4 (some .long) :: wG) ({ frames := 0, cells := 0, slots := 0, locals := 0 }) (va_Pc [.ref oC] (Pw dC dI sz [(oC, .inr (1, [.int iC_nodes, .int iC_words, .int iC_chances, .int iC_unsures, .int iC_slips, .int iC_throneNode, .int iC_saidWorth, .int iC_unit, .ref rC_kind, .ref rC_parts, .ref rC_partNodes, .ref rC_weights, .ref rC_weightSums, .ref rC_toldWorths, .ref rC_steps, .ref rC_below, .ref rC_above, .ref rC_unsureWords, .ref rC_unsureWorths]))] [])) (va_Ql (fun (r : Int64) (_ : Nat) => True ∧ True) (fun (_ : Nat) (t : State) => Bw dC dI (va_A [(oC, .inr (1, [.int iC_nodes, .int iC_words, .int iC_chances, .int iC_unsures, .int iC_slips, .int iC_throneNode, .int iC_saidWorth, .int iC_unit, .ref rC_kind, .ref rC_parts, .ref rC_partNodes, .ref rC_weights, .ref rC_weightSums, .ref rC_toldWorths, .ref rC_steps, .ref rC_below, .ref rC_above, .ref rC_unsureWords, .ref rC_unsureWorths]))] sz) [(oC, .inr (1, [.int iC_nodes, .int iC_words, .int iC_chances, .int iC_unsures, .int iC_slips, .int iC_throneNode, .int iC_saidWorth, .int iC_unit, .ref rC_kind, .ref rC_parts, .ref rC_partNodes, .ref rC_weights, .ref rC_weightSums, .ref rC_toldWorths, .ref rC_steps, .ref rC_below, .ref rC_above, .ref rC_unsureWords, .ref rC_unsureWorths]))] [] t) (va_A [(oC, .inr (1, [.int iC_nodes, .int iC_words, .int iC_chances, .int iC_unsures, .int iC_slips, .int iC_throneNode, .int iC_saidWorth, .int iC_unit, .ref rC_kind, .ref rC_parts, .ref rC_partNodes, .ref rC_weights, .ref rC_weightSums, .ref rC_toldWorths, .ref rC_steps, .ref rC_below, .ref rC_above, .ref rC_unsureWords, .ref rC_unsureWorths]))] sz)) 0 0 (va_A [(oC, .inr (1, [.int iC_nodes, .int iC_words, .int iC_chances, .int iC_unsures, .int iC_slips, .int iC_throneNode, .int iC_saidWorth, .int iC_unit, .ref rC_kind, .ref rC_parts, .ref rC_partNodes, .ref rC_weights, .ref rC_weightSums, .ref rC_toldWorths, .ref rC_steps, .ref rC_below, .ref rC_above, .ref rC_unsureWords, .ref rC_unsureWorths]))] sz) := by
  refine Met.ofW (cc := cX1_allLikelihood) (maxL := 4) (ret := (some .long)) (by decide) rfl ?_
  intro p e s m args below meth c s₁ B hml hv
  obtain ⟨rfl, hsz, hP, hK, hD0, hE⟩ := hv
  have hx := B.exec
  have hb := B.bytes
  have hr := B.returns
  have hts : ∀ w ∈ wG, w.before ([.ref oC] : List Value).toArray s = true := fun w h => atoms_spec (ws := Cond.code yX1_allLikelihood cX1_allLikelihood 4 (some .long) :: wG) B.pre w (List.mem_cons_of_mem _ h)
  have hown : s.vm.findClass RX1 = some m.cls := findClass_of_methodNamed B.named
  have hlocks := B.notSynchronized
  subst hsz
  have hD := hD0.self (sz := s.heap.size)
  generalize hAe : va_A [(oC, .inr (1, [.int iC_nodes, .int iC_words, .int iC_chances, .int iC_unsures, .int iC_slips, .int iC_throneNode, .int iC_saidWorth, .int iC_unit, .ref rC_kind, .ref rC_parts, .ref rC_partNodes, .ref rC_weights, .ref rC_weightSums, .ref rC_toldWorths, .ref rC_steps, .ref rC_below, .ref rC_above, .ref rC_unsureWords, .ref rC_unsureWorths]))] s.heap.size = A at hD hE ⊢
  have hA : ∀ q : Nat, s.heap.size ≤ q → A q := fun q h => by rw [← hAe]; exact Or.inr h
  have hS : va_S A s.heap s.heap [] := va_S.rf
  have hl := lv_entry ([.ref oC]) (n := 4) (Nat.le_of_ble_eq_true rfl)
  rw [lg_entry_eq]
  generalize (lg_sl ([.ref oC]) ++ List.replicate (4 - (lg_sl ([.ref oC])).length) Slot.unset).toArray = ls at hl ⊢
  have hl : lv_has ls 4 [(0, .ref oC)] := hl
  refine lv_lconst (v := 1) hx hb dX1_allLikelihood_0 (by decide) ?_
  refine lv_lstore_n (lv' := [(1, .long 1), (0, .ref oC)]) hx hb dX1_allLikelihood_1 rfl hl (by decide) rfl (fun ls hl => ?_)
  refine lv_iconst (v := 0) hx hb dX1_allLikelihood_2 (by decide) ?_
  refine lv_istore_n (lv' := [(3, .int 0), (1, .long 1), (0, .ref oC)]) hx hb dX1_allLikelihood_3 rfl hl (by decide) rfl (fun ls hl => ?_)
  have hl := lv_sub hl (l' := [(3, .int 0), (1, .long 1), (0, .ref oC)]) [0, 1, 2] rfl
  have key_n_339 : ∀ (n_339 : Nat) (z_337 : Int32) (z_338 : Int64) (H : Heap) (locs : List Loc) (ls : Array Slot), (0 ≤ z_337.toInt ∧ z_337.toInt ≤ 2147483647) → (2147483647 - z_337.toInt).toNat < n_339 → va_P (dC, dI) vwCl [(oC, .inr (1, [.int iC_nodes, .int iC_words, .int iC_chances, .int iC_unsures, .int iC_slips, .int iC_throneNode, .int iC_saidWorth, .int iC_unit, .ref rC_kind, .ref rC_parts, .ref rC_partNodes, .ref rC_weights, .ref rC_weightSums, .ref rC_toldWorths, .ref rC_steps, .ref rC_below, .ref rC_above, .ref rC_unsureWords, .ref rC_unsureWorths]))] H → va_D A [(oC, .inr (1, [.int iC_nodes, .int iC_words, .int iC_chances, .int iC_unsures, .int iC_slips, .int iC_throneNode, .int iC_saidWorth, .int iC_unit, .ref rC_kind, .ref rC_parts, .ref rC_partNodes, .ref rC_weights, .ref rC_weightSums, .ref rC_toldWorths, .ref rC_steps, .ref rC_below, .ref rC_above, .ref rC_unsureWords, .ref rC_unsureWorths]))] → va_S A s.heap H locs → lv_has ls 4 [(3, .int z_337), (1, .long z_338), (0, .ref oC)] → W p l e (headSpec (Cond.code yX1_allLikelihood cX1_allLikelihood 4 (some .long) :: wG) ({ frames := 0, cells := 0, slots := 0, locals := 0 })).room s m ([.ref oC] : List Value).toArray below meth c H locs 0 0 (MQ below (va_Ql (fun (r : Int64) (_ : Nat) => True ∧ True) (fun (_ : Nat) (t : State) => Bw dC dI A [(oC, .inr (1, [.int iC_nodes, .int iC_words, .int iC_chances, .int iC_unsures, .int iC_slips, .int iC_throneNode, .int iC_saidWorth, .int iC_unit, .ref rC_kind, .ref rC_parts, .ref rC_partNodes, .ref rC_weights, .ref rC_weightSums, .ref rC_toldWorths, .ref rC_steps, .ref rC_below, .ref rC_above, .ref rC_unsureWords, .ref rC_unsureWorths]))] [] t) A) ([.ref oC] : List Value).toArray s 0 0 A) (F0 m 4 ls []) := by
    intro n_339
    induction n_339 with
    | zero => intro z_337 z_338 H locs ls hi0_n_339 hm; exact absurd hm (by omega)
    | succ n_339 ih_n_339 =>
      intro z_337 z_338 H locs ls hi0_n_339 hm hP hD hS hl
      have rg_z_337 := fb_rng z_337
      refine lv_iload_n hx hb dX1_allLikelihood_4 rfl (lv_at hl 0 rfl) ?_
      refine lv_aload_n hx hb dX1_allLikelihood_5 rfl (lv_at hl 2 rfl) ?_
      refine va_get (D := (dC, dI)) (ci := 1) (v := .int iC_unsures) (C := RX1) (T := TX1) (N := 19) hx hb hts inX1 hown hK hP 0 rfl rfl 3 (by decide) (hts _ wd_218) (fun _ h9 => h9) rfl dX1_allLikelihood_6 ?_
      have rg_iC_unsures := fb_rng iC_unsures
      refine lv_icmp_ge (tgt := 24) hx hb dX1_allLikelihood_9 (by decide) (fun c_340 => ?_) (fun c_340 => ?_)
      · skip
        have gc_340 := ti_le c_340 rfl rfl
        refine lv_lload_n hx hb dX1_allLikelihood_24 rfl (lv_at hl 1 rfl) ?_
        have hP9 := hP.sub (ws' := [(oC, .inr (1, [.int iC_nodes, .int iC_words, .int iC_chances, .int iC_unsures, .int iC_slips, .int iC_throneNode, .int iC_saidWorth, .int iC_unit, .ref rC_kind, .ref rC_parts, .ref rC_partNodes, .ref rC_weights, .ref rC_weightSums, .ref rC_toldWorths, .ref rC_steps, .ref rC_below, .ref rC_above, .ref rC_unsureWords, .ref rC_unsureWorths]))]) [0] rfl
        have hD9 := hD.sub (ws' := [(oC, .inr (1, [.int iC_nodes, .int iC_words, .int iC_chances, .int iC_unsures, .int iC_slips, .int iC_throneNode, .int iC_saidWorth, .int iC_unit, .ref rC_kind, .ref rC_parts, .ref rC_partNodes, .ref rC_weights, .ref rC_weightSums, .ref rC_toldWorths, .ref rC_steps, .ref rC_below, .ref rC_above, .ref rC_unsureWords, .ref rC_unsureWorths]))]) [0] (by decide) rfl
        have hK9 := hK.sub (tys' := []) [] rfl
        exact W.lret hx hb hr (fun t ht hW => ⟨⟨_, 0, rfl, ⟨trivial, trivial⟩, Bw.to hP9 hD9 hK9 ht hW⟩, hS.F ht⟩) hS.2.2 dX1_allLikelihood_25
      · skip
        have gc_340 := ti_nle c_340 rfl rfl
        refine lv_lload_n hx hb dX1_allLikelihood_12 rfl (lv_at hl 1 rfl) ?_
        refine lv_ldc2 hx hb hown (hts _ wd_1266) dX1_allLikelihood_13 ?_
        refine lv_lmul hx hb dX1_allLikelihood_16 ?_
        refine lv_topl (fun y_341 ey_341 => ?_)
        refine lv_lstore_n (lv' := [(1, .long y_341), (3, .int z_337), (0, .ref oC)]) hx hb dX1_allLikelihood_17 rfl hl (by decide) rfl (fun ls hl => ?_)
        obtain ⟨x_342, ex_342⟩ : ∃ z : Int32, z = z_337 + Int32.ofInt 1 := ⟨_, rfl⟩
        have vx_342 : x_342.toInt = z_337.toInt + 1 := by have q := ti_add (y := 1) ex_342 rfl kc_1 (by omega) (by omega); omega
        refine lv_iinc (v := x_342) (lv' := [(3, .int x_342), (1, .long y_341), (0, .ref oC)]) hx hb dX1_allLikelihood_18 hl (k := 1) rfl ex_342.symm (by decide) rfl (fun ls hl => ?_)
        refine lv_goto (tgt := 4) hx hb dX1_allLikelihood_21 (by decide) ?_
        exact ih_n_339 x_342 y_341 _ _ _  (by first | omega | decide | assumption) (by omega) (hP.sub [0] rfl) (hD.sub [0] (by decide) rfl) hS (lv_sub hl [0, 1, 2] rfl)
  exact key_n_339 ((2147483647 - (0 : Int32).toInt).toNat + 1) 0 1 _ _ _  (by first | omega | decide | assumption | (have q0 := kc_0; have q1 := kc_1; omega)) (by omega) hP hD hS hl
