set_option maxHeartbeats 4000000 in
set_option maxRecDepth 100000 in
theorem tX1_clear (l : Launch) (dC : Nat → ClassId) (dI : Nat → Nat → Nat) (sz : Nat) (oC : Nat) (iC_nodes : Int32) (iC_words : Int32) (iC_chances : Int32) (iC_unsures : Int32) (iC_slips : Int32) (iC_throneNode : Int32) (iC_saidWorth : Int32) (iC_unit : Int32) (rC_kind : Nat) (rC_parts : Nat) (rC_partNodes : Nat) (rC_weights : Nat) (rC_weightSums : Nat) (rC_toldWorths : Nat) (rC_steps : Nat) (rC_below : Nat) (rC_above : Nat) (rC_unsureWords : Nat) (rC_unsureWorths : Nat) (b_iC_nodes : 0 ≤ iC_nodes.toInt ∧ iC_nodes.toInt ≤ 18) (b_iC_unsures : 0 ≤ iC_unsures.toInt ∧ iC_unsures.toInt ≤ 4)  : Met l yX1_clear (Cond.code yX1_clear cX1_clear 1 none :: wG) ({ frames := 0, cells := 0, slots := 0, locals := 0 }) (va_Pc [.ref oC] (Pw dC dI sz [(oC, .inr (1, [.int iC_nodes, .int iC_words, .int iC_chances, .int iC_unsures, .int iC_slips, .int iC_throneNode, .int iC_saidWorth, .int iC_unit, .ref rC_kind, .ref rC_parts, .ref rC_partNodes, .ref rC_weights, .ref rC_weightSums, .ref rC_toldWorths, .ref rC_steps, .ref rC_below, .ref rC_above, .ref rC_unsureWords, .ref rC_unsureWorths]))] [])) (va_Qv (fun (_ : Nat) => True) (fun (_ : Nat) (t : State) => ∃ (niC_nodes : Int32) (niC_words : Int32) (niC_chances : Int32) (niC_unsures : Int32) (niC_slips : Int32) (niC_throneNode : Int32) (niC_saidWorth : Int32) (niC_unit : Int32), (0 ≤ niC_nodes.toInt ∧ niC_nodes.toInt ≤ 0) ∧ (0 ≤ niC_words.toInt ∧ niC_words.toInt ≤ 0) ∧ (0 ≤ niC_chances.toInt ∧ niC_chances.toInt ≤ 0) ∧ (0 ≤ niC_unsures.toInt ∧ niC_unsures.toInt ≤ 0) ∧ (0 ≤ niC_slips.toInt ∧ niC_slips.toInt ≤ 0) ∧ ((-1) ≤ niC_throneNode.toInt ∧ niC_throneNode.toInt ≤ (-1)) ∧ ((-1) ≤ niC_saidWorth.toInt ∧ niC_saidWorth.toInt ≤ (-1)) ∧ (1 ≤ niC_unit.toInt ∧ niC_unit.toInt ≤ 1) ∧ Bw dC dI (va_A [(oC, .inr (1, [.int iC_nodes, .int iC_words, .int iC_chances, .int iC_unsures, .int iC_slips, .int iC_throneNode, .int iC_saidWorth, .int iC_unit, .ref rC_kind, .ref rC_parts, .ref rC_partNodes, .ref rC_weights, .ref rC_weightSums, .ref rC_toldWorths, .ref rC_steps, .ref rC_below, .ref rC_above, .ref rC_unsureWords, .ref rC_unsureWorths]))] sz) [(oC, .inr (1, [.int niC_nodes, .int niC_words, .int niC_chances, .int niC_unsures, .int niC_slips, .int niC_throneNode, .int niC_saidWorth, .int niC_unit, .ref rC_kind, .ref rC_parts, .ref rC_partNodes, .ref rC_weights, .ref rC_weightSums, .ref rC_toldWorths, .ref rC_steps, .ref rC_below, .ref rC_above, .ref rC_unsureWords, .ref rC_unsureWorths]))] [] t) (va_A [(oC, .inr (1, [.int iC_nodes, .int iC_words, .int iC_chances, .int iC_unsures, .int iC_slips, .int iC_throneNode, .int iC_saidWorth, .int iC_unit, .ref rC_kind, .ref rC_parts, .ref rC_partNodes, .ref rC_weights, .ref rC_weightSums, .ref rC_toldWorths, .ref rC_steps, .ref rC_below, .ref rC_above, .ref rC_unsureWords, .ref rC_unsureWorths]))] sz)) 0 0 (va_A [(oC, .inr (1, [.int iC_nodes, .int iC_words, .int iC_chances, .int iC_unsures, .int iC_slips, .int iC_throneNode, .int iC_saidWorth, .int iC_unit, .ref rC_kind, .ref rC_parts, .ref rC_partNodes, .ref rC_weights, .ref rC_weightSums, .ref rC_toldWorths, .ref rC_steps, .ref rC_below, .ref rC_above, .ref rC_unsureWords, .ref rC_unsureWorths]))] sz) := by
  refine Met.ofW (cc := cX1_clear) (maxL := 1) (ret := none) (by decide) rfl ?_
  intro p e s m args below meth c s₁ B hml hv
  obtain ⟨rfl, hsz, hP, hK, hD0, hE⟩ := hv
  have hx := B.exec
  have hb := B.bytes
  have hr := B.returns
  have hts : ∀ w ∈ wG, w.before ([.ref oC] : List Value).toArray s = true := fun w h => atoms_spec (ws := Cond.code yX1_clear cX1_clear 1 none :: wG) B.pre w (List.mem_cons_of_mem _ h)
  have hown : s.vm.findClass RX1 = some m.cls := findClass_of_methodNamed B.named
  have hlocks := B.notSynchronized
  subst hsz
  have hD := hD0.self (sz := s.heap.size)
  generalize hAe : va_A [(oC, .inr (1, [.int iC_nodes, .int iC_words, .int iC_chances, .int iC_unsures, .int iC_slips, .int iC_throneNode, .int iC_saidWorth, .int iC_unit, .ref rC_kind, .ref rC_parts, .ref rC_partNodes, .ref rC_weights, .ref rC_weightSums, .ref rC_toldWorths, .ref rC_steps, .ref rC_below, .ref rC_above, .ref rC_unsureWords, .ref rC_unsureWorths]))] s.heap.size = A at hD hE ⊢
  have hA : ∀ q : Nat, s.heap.size ≤ q → A q := fun q h => by rw [← hAe]; exact Or.inr h
  have hS : va_S A s.heap s.heap [] := va_S.rf
  have hl := lv_entry ([.ref oC]) (n := 1) (Nat.le_of_ble_eq_true rfl)
  rw [lg_entry_eq]
  generalize (lg_sl ([.ref oC]) ++ List.replicate (1 - (lg_sl ([.ref oC])).length) Slot.unset).toArray = ls at hl ⊢
  have hl : lv_has ls 1 [(0, .ref oC)] := hl
  refine lv_aload_n hx hb dX1_clear_0 rfl (lv_at hl 0 rfl) ?_
  refine lv_iconst (v := 0) hx hb dX1_clear_1 (by decide) ?_
  refine va_put (D := (dC, dI)) (ci := 1) (v := .int 0) (ty := .int) (C := RX1) (T := TX1) (N := 19) hx hb hts inX1 tyX1 tyX1_ok nmX1 hown hK hP hD hS 0 rfl rfl 0 (by decide) (hts _ wd_215) (fun _ h9 => h9) rfl (by decide +kernel) rfl rfl (Nat.le_of_ble_eq_true rfl) dX1_clear_2 (fun H locs hP hD hS => ?_)
  have hP : va_P (dC, dI) vwCl [(oC, .inr (1, [.int 0, .int iC_words, .int iC_chances, .int iC_unsures, .int iC_slips, .int iC_throneNode, .int iC_saidWorth, .int iC_unit, .ref rC_kind, .ref rC_parts, .ref rC_partNodes, .ref rC_weights, .ref rC_weightSums, .ref rC_toldWorths, .ref rC_steps, .ref rC_below, .ref rC_above, .ref rC_unsureWords, .ref rC_unsureWorths]))] H := hP
  have hD : va_D A [(oC, .inr (1, [.int 0, .int iC_words, .int iC_chances, .int iC_unsures, .int iC_slips, .int iC_throneNode, .int iC_saidWorth, .int iC_unit, .ref rC_kind, .ref rC_parts, .ref rC_partNodes, .ref rC_weights, .ref rC_weightSums, .ref rC_toldWorths, .ref rC_steps, .ref rC_below, .ref rC_above, .ref rC_unsureWords, .ref rC_unsureWorths]))] := hD
  refine lv_aload_n hx hb dX1_clear_5 rfl (lv_at hl 0 rfl) ?_
  refine lv_iconst (v := 0) hx hb dX1_clear_6 (by decide) ?_
  refine va_put (D := (dC, dI)) (ci := 1) (v := .int 0) (ty := .int) (C := RX1) (T := TX1) (N := 19) hx hb hts inX1 tyX1 tyX1_ok nmX1 hown hK hP hD hS 0 rfl rfl 1 (by decide) (hts _ wd_216) (fun _ h9 => h9) rfl (by decide +kernel) rfl rfl (Nat.le_of_ble_eq_true rfl) dX1_clear_7 (fun H locs hP hD hS => ?_)
  have hP : va_P (dC, dI) vwCl [(oC, .inr (1, [.int 0, .int 0, .int iC_chances, .int iC_unsures, .int iC_slips, .int iC_throneNode, .int iC_saidWorth, .int iC_unit, .ref rC_kind, .ref rC_parts, .ref rC_partNodes, .ref rC_weights, .ref rC_weightSums, .ref rC_toldWorths, .ref rC_steps, .ref rC_below, .ref rC_above, .ref rC_unsureWords, .ref rC_unsureWorths]))] H := hP
  have hD : va_D A [(oC, .inr (1, [.int 0, .int 0, .int iC_chances, .int iC_unsures, .int iC_slips, .int iC_throneNode, .int iC_saidWorth, .int iC_unit, .ref rC_kind, .ref rC_parts, .ref rC_partNodes, .ref rC_weights, .ref rC_weightSums, .ref rC_toldWorths, .ref rC_steps, .ref rC_below, .ref rC_above, .ref rC_unsureWords, .ref rC_unsureWorths]))] := hD
  refine lv_aload_n hx hb dX1_clear_10 rfl (lv_at hl 0 rfl) ?_
  refine lv_iconst (v := 0) hx hb dX1_clear_11 (by decide) ?_
  refine va_put (D := (dC, dI)) (ci := 1) (v := .int 0) (ty := .int) (C := RX1) (T := TX1) (N := 19) hx hb hts inX1 tyX1 tyX1_ok nmX1 hown hK hP hD hS 0 rfl rfl 2 (by decide) (hts _ wd_217) (fun _ h9 => h9) rfl (by decide +kernel) rfl rfl (Nat.le_of_ble_eq_true rfl) dX1_clear_12 (fun H locs hP hD hS => ?_)
  have hP : va_P (dC, dI) vwCl [(oC, .inr (1, [.int 0, .int 0, .int 0, .int iC_unsures, .int iC_slips, .int iC_throneNode, .int iC_saidWorth, .int iC_unit, .ref rC_kind, .ref rC_parts, .ref rC_partNodes, .ref rC_weights, .ref rC_weightSums, .ref rC_toldWorths, .ref rC_steps, .ref rC_below, .ref rC_above, .ref rC_unsureWords, .ref rC_unsureWorths]))] H := hP
  have hD : va_D A [(oC, .inr (1, [.int 0, .int 0, .int 0, .int iC_unsures, .int iC_slips, .int iC_throneNode, .int iC_saidWorth, .int iC_unit, .ref rC_kind, .ref rC_parts, .ref rC_partNodes, .ref rC_weights, .ref rC_weightSums, .ref rC_toldWorths, .ref rC_steps, .ref rC_below, .ref rC_above, .ref rC_unsureWords, .ref rC_unsureWorths]))] := hD
  refine lv_aload_n hx hb dX1_clear_15 rfl (lv_at hl 0 rfl) ?_
  refine lv_iconst (v := 0) hx hb dX1_clear_16 (by decide) ?_
  refine va_put (D := (dC, dI)) (ci := 1) (v := .int 0) (ty := .int) (C := RX1) (T := TX1) (N := 19) hx hb hts inX1 tyX1 tyX1_ok nmX1 hown hK hP hD hS 0 rfl rfl 3 (by decide) (hts _ wd_218) (fun _ h9 => h9) rfl (by decide +kernel) rfl rfl (Nat.le_of_ble_eq_true rfl) dX1_clear_17 (fun H locs hP hD hS => ?_)
  have hP : va_P (dC, dI) vwCl [(oC, .inr (1, [.int 0, .int 0, .int 0, .int 0, .int iC_slips, .int iC_throneNode, .int iC_saidWorth, .int iC_unit, .ref rC_kind, .ref rC_parts, .ref rC_partNodes, .ref rC_weights, .ref rC_weightSums, .ref rC_toldWorths, .ref rC_steps, .ref rC_below, .ref rC_above, .ref rC_unsureWords, .ref rC_unsureWorths]))] H := hP
  have hD : va_D A [(oC, .inr (1, [.int 0, .int 0, .int 0, .int 0, .int iC_slips, .int iC_throneNode, .int iC_saidWorth, .int iC_unit, .ref rC_kind, .ref rC_parts, .ref rC_partNodes, .ref rC_weights, .ref rC_weightSums, .ref rC_toldWorths, .ref rC_steps, .ref rC_below, .ref rC_above, .ref rC_unsureWords, .ref rC_unsureWorths]))] := hD
  refine lv_aload_n hx hb dX1_clear_20 rfl (lv_at hl 0 rfl) ?_
  refine lv_iconst (v := 0) hx hb dX1_clear_21 (by decide) ?_
  refine va_put (D := (dC, dI)) (ci := 1) (v := .int 0) (ty := .int) (C := RX1) (T := TX1) (N := 19) hx hb hts inX1 tyX1 tyX1_ok nmX1 hown hK hP hD hS 0 rfl rfl 4 (by decide) (hts _ wd_219) (fun _ h9 => h9) rfl (by decide +kernel) rfl rfl (Nat.le_of_ble_eq_true rfl) dX1_clear_22 (fun H locs hP hD hS => ?_)
  have hP : va_P (dC, dI) vwCl [(oC, .inr (1, [.int 0, .int 0, .int 0, .int 0, .int 0, .int iC_throneNode, .int iC_saidWorth, .int iC_unit, .ref rC_kind, .ref rC_parts, .ref rC_partNodes, .ref rC_weights, .ref rC_weightSums, .ref rC_toldWorths, .ref rC_steps, .ref rC_below, .ref rC_above, .ref rC_unsureWords, .ref rC_unsureWorths]))] H := hP
  have hD : va_D A [(oC, .inr (1, [.int 0, .int 0, .int 0, .int 0, .int 0, .int iC_throneNode, .int iC_saidWorth, .int iC_unit, .ref rC_kind, .ref rC_parts, .ref rC_partNodes, .ref rC_weights, .ref rC_weightSums, .ref rC_toldWorths, .ref rC_steps, .ref rC_below, .ref rC_above, .ref rC_unsureWords, .ref rC_unsureWorths]))] := hD
  refine lv_aload_n hx hb dX1_clear_25 rfl (lv_at hl 0 rfl) ?_
  refine lv_iconst (v := (-1)) hx hb dX1_clear_26 (by decide) ?_
  refine va_put (D := (dC, dI)) (ci := 1) (v := .int (-1)) (ty := .int) (C := RX1) (T := TX1) (N := 19) hx hb hts inX1 tyX1 tyX1_ok nmX1 hown hK hP hD hS 0 rfl rfl 5 (by decide) (hts _ wd_66) (fun _ h9 => h9) rfl (by decide +kernel) rfl rfl (Nat.le_of_ble_eq_true rfl) dX1_clear_27 (fun H locs hP hD hS => ?_)
  have hP : va_P (dC, dI) vwCl [(oC, .inr (1, [.int 0, .int 0, .int 0, .int 0, .int 0, .int (-1), .int iC_saidWorth, .int iC_unit, .ref rC_kind, .ref rC_parts, .ref rC_partNodes, .ref rC_weights, .ref rC_weightSums, .ref rC_toldWorths, .ref rC_steps, .ref rC_below, .ref rC_above, .ref rC_unsureWords, .ref rC_unsureWorths]))] H := hP
  have hD : va_D A [(oC, .inr (1, [.int 0, .int 0, .int 0, .int 0, .int 0, .int (-1), .int iC_saidWorth, .int iC_unit, .ref rC_kind, .ref rC_parts, .ref rC_partNodes, .ref rC_weights, .ref rC_weightSums, .ref rC_toldWorths, .ref rC_steps, .ref rC_below, .ref rC_above, .ref rC_unsureWords, .ref rC_unsureWorths]))] := hD
  refine lv_aload_n hx hb dX1_clear_30 rfl (lv_at hl 0 rfl) ?_
  refine lv_iconst (v := (-1)) hx hb dX1_clear_31 (by decide) ?_
  refine va_put (D := (dC, dI)) (ci := 1) (v := .int (-1)) (ty := .int) (C := RX1) (T := TX1) (N := 19) hx hb hts inX1 tyX1 tyX1_ok nmX1 hown hK hP hD hS 0 rfl rfl 6 (by decide) (hts _ wd_65) (fun _ h9 => h9) rfl (by decide +kernel) rfl rfl (Nat.le_of_ble_eq_true rfl) dX1_clear_32 (fun H locs hP hD hS => ?_)
  have hP : va_P (dC, dI) vwCl [(oC, .inr (1, [.int 0, .int 0, .int 0, .int 0, .int 0, .int (-1), .int (-1), .int iC_unit, .ref rC_kind, .ref rC_parts, .ref rC_partNodes, .ref rC_weights, .ref rC_weightSums, .ref rC_toldWorths, .ref rC_steps, .ref rC_below, .ref rC_above, .ref rC_unsureWords, .ref rC_unsureWorths]))] H := hP
  have hD : va_D A [(oC, .inr (1, [.int 0, .int 0, .int 0, .int 0, .int 0, .int (-1), .int (-1), .int iC_unit, .ref rC_kind, .ref rC_parts, .ref rC_partNodes, .ref rC_weights, .ref rC_weightSums, .ref rC_toldWorths, .ref rC_steps, .ref rC_below, .ref rC_above, .ref rC_unsureWords, .ref rC_unsureWorths]))] := hD
  refine lv_aload_n hx hb dX1_clear_35 rfl (lv_at hl 0 rfl) ?_
  refine lv_iconst (v := 1) hx hb dX1_clear_36 (by decide) ?_
  refine va_put (D := (dC, dI)) (ci := 1) (v := .int 1) (ty := .int) (C := RX1) (T := TX1) (N := 19) hx hb hts inX1 tyX1 tyX1_ok nmX1 hown hK hP hD hS 0 rfl rfl 7 (by decide) (hts _ wd_67) (fun _ h9 => h9) rfl (by decide +kernel) rfl rfl (Nat.le_of_ble_eq_true rfl) dX1_clear_37 (fun H locs hP hD hS => ?_)
  have hP : va_P (dC, dI) vwCl [(oC, .inr (1, [.int 0, .int 0, .int 0, .int 0, .int 0, .int (-1), .int (-1), .int 1, .ref rC_kind, .ref rC_parts, .ref rC_partNodes, .ref rC_weights, .ref rC_weightSums, .ref rC_toldWorths, .ref rC_steps, .ref rC_below, .ref rC_above, .ref rC_unsureWords, .ref rC_unsureWorths]))] H := hP
  have hD : va_D A [(oC, .inr (1, [.int 0, .int 0, .int 0, .int 0, .int 0, .int (-1), .int (-1), .int 1, .ref rC_kind, .ref rC_parts, .ref rC_partNodes, .ref rC_weights, .ref rC_weightSums, .ref rC_toldWorths, .ref rC_steps, .ref rC_below, .ref rC_above, .ref rC_unsureWords, .ref rC_unsureWorths]))] := hD
  have hP9 := hP.sub (ws' := [(oC, .inr (1, [.int 0, .int 0, .int 0, .int 0, .int 0, .int (-1), .int (-1), .int 1, .ref rC_kind, .ref rC_parts, .ref rC_partNodes, .ref rC_weights, .ref rC_weightSums, .ref rC_toldWorths, .ref rC_steps, .ref rC_below, .ref rC_above, .ref rC_unsureWords, .ref rC_unsureWorths]))]) [0] rfl
  have hD9 := hD.sub (ws' := [(oC, .inr (1, [.int 0, .int 0, .int 0, .int 0, .int 0, .int (-1), .int (-1), .int 1, .ref rC_kind, .ref rC_parts, .ref rC_partNodes, .ref rC_weights, .ref rC_weightSums, .ref rC_toldWorths, .ref rC_steps, .ref rC_below, .ref rC_above, .ref rC_unsureWords, .ref rC_unsureWorths]))]) [0] (by decide) rfl
  have hK9 := hK.sub (tys' := []) [] rfl
  exact W.vret hx hb hr (fun t ht hW => ⟨⟨0, rfl, trivial, ⟨0, 0, 0, 0, 0, (-1), (-1), 1, (by decide), (by decide), (by decide), (by decide), (by decide), (by decide), (by decide), (by decide), Bw.to hP9 hD9 hK9 ht hW⟩⟩, hS.F ht⟩) hS.2.2 dX1_clear_40
set_option maxHeartbeats 4000000 in
set_option maxRecDepth 100000 in
theorem tX1_hasNode (l : Launch) (dC : Nat → ClassId) (dI : Nat → Nat → Nat) (sz : Nat) (oC : Nat) (iC_nodes : Int32) (iC_words : Int32) (iC_chances : Int32) (iC_unsures : Int32) (iC_slips : Int32) (iC_throneNode : Int32) (iC_saidWorth : Int32) (iC_unit : Int32) (rC_kind : Nat) (rC_parts : Nat) (rC_partNodes : Nat) (rC_weights : Nat) (rC_weightSums : Nat) (rC_toldWorths : Nat) (rC_steps : Nat) (rC_below : Nat) (rC_above : Nat) (rC_unsureWords : Nat) (rC_unsureWorths : Nat) (p0 : Int32) (b_iC_nodes : 0 ≤ iC_nodes.toInt ∧ iC_nodes.toInt ≤ 18) (b_iC_unsures : 0 ≤ iC_unsures.toInt ∧ iC_unsures.toInt ≤ 4)  : Met l yX1_hasNode (Cond.code yX1_hasNode cX1_hasNode 2 (some .boolean) :: wG) ({ frames := 0, cells := 0, slots := 0, locals := 0 }) (va_Pc [.ref oC, .int p0] (Pw dC dI sz [(oC, .inr (1, [.int iC_nodes, .int iC_words, .int iC_chances, .int iC_unsures, .int iC_slips, .int iC_throneNode, .int iC_saidWorth, .int iC_unit, .ref rC_kind, .ref rC_parts, .ref rC_partNodes, .ref rC_weights, .ref rC_weightSums, .ref rC_toldWorths, .ref rC_steps, .ref rC_below, .ref rC_above, .ref rC_unsureWords, .ref rC_unsureWorths]))] [])) (va_Qi (fun (r : Int32) (_ : Nat) => (r = 0 ∨ r = 1) ∧ ((r = 1 ∧ 0 ≤ p0.toInt ∧ p0.toInt < iC_nodes.toInt) ∨ (r = 0 ∧ True))) (fun (_ : Nat) (t : State) => Bw dC dI (va_A [(oC, .inr (1, [.int iC_nodes, .int iC_words, .int iC_chances, .int iC_unsures, .int iC_slips, .int iC_throneNode, .int iC_saidWorth, .int iC_unit, .ref rC_kind, .ref rC_parts, .ref rC_partNodes, .ref rC_weights, .ref rC_weightSums, .ref rC_toldWorths, .ref rC_steps, .ref rC_below, .ref rC_above, .ref rC_unsureWords, .ref rC_unsureWorths]))] sz) [(oC, .inr (1, [.int iC_nodes, .int iC_words, .int iC_chances, .int iC_unsures, .int iC_slips, .int iC_throneNode, .int iC_saidWorth, .int iC_unit, .ref rC_kind, .ref rC_parts, .ref rC_partNodes, .ref rC_weights, .ref rC_weightSums, .ref rC_toldWorths, .ref rC_steps, .ref rC_below, .ref rC_above, .ref rC_unsureWords, .ref rC_unsureWorths]))] [] t) (va_A [(oC, .inr (1, [.int iC_nodes, .int iC_words, .int iC_chances, .int iC_unsures, .int iC_slips, .int iC_throneNode, .int iC_saidWorth, .int iC_unit, .ref rC_kind, .ref rC_parts, .ref rC_partNodes, .ref rC_weights, .ref rC_weightSums, .ref rC_toldWorths, .ref rC_steps, .ref rC_below, .ref rC_above, .ref rC_unsureWords, .ref rC_unsureWorths]))] sz)) 0 0 (va_A [(oC, .inr (1, [.int iC_nodes, .int iC_words, .int iC_chances, .int iC_unsures, .int iC_slips, .int iC_throneNode, .int iC_saidWorth, .int iC_unit, .ref rC_kind, .ref rC_parts, .ref rC_partNodes, .ref rC_weights, .ref rC_weightSums, .ref rC_toldWorths, .ref rC_steps, .ref rC_below, .ref rC_above, .ref rC_unsureWords, .ref rC_unsureWorths]))] sz) := by
  refine Met.ofW (cc := cX1_hasNode) (maxL := 2) (ret := (some .boolean)) (by decide) rfl ?_
  intro p e s m args below meth c s₁ B hml hv
  obtain ⟨rfl, hsz, hP, hK, hD0, hE⟩ := hv
  have hx := B.exec
  have hb := B.bytes
  have hr := B.returns
  have hts : ∀ w ∈ wG, w.before ([.ref oC, .int p0] : List Value).toArray s = true := fun w h => atoms_spec (ws := Cond.code yX1_hasNode cX1_hasNode 2 (some .boolean) :: wG) B.pre w (List.mem_cons_of_mem _ h)
  have hown : s.vm.findClass RX1 = some m.cls := findClass_of_methodNamed B.named
  have hlocks := B.notSynchronized
  subst hsz
  have hD := hD0.self (sz := s.heap.size)
  generalize hAe : va_A [(oC, .inr (1, [.int iC_nodes, .int iC_words, .int iC_chances, .int iC_unsures, .int iC_slips, .int iC_throneNode, .int iC_saidWorth, .int iC_unit, .ref rC_kind, .ref rC_parts, .ref rC_partNodes, .ref rC_weights, .ref rC_weightSums, .ref rC_toldWorths, .ref rC_steps, .ref rC_below, .ref rC_above, .ref rC_unsureWords, .ref rC_unsureWorths]))] s.heap.size = A at hD hE ⊢
  have hA : ∀ q : Nat, s.heap.size ≤ q → A q := fun q h => by rw [← hAe]; exact Or.inr h
  have hS : va_S A s.heap s.heap [] := va_S.rf
  have hl := lv_entry ([.ref oC, .int p0]) (n := 2) (Nat.le_of_ble_eq_true rfl)
  rw [lg_entry_eq]
  generalize (lg_sl ([.ref oC, .int p0]) ++ List.replicate (2 - (lg_sl ([.ref oC, .int p0])).length) Slot.unset).toArray = ls at hl ⊢
  have hl : lv_has ls 2 [(0, .ref oC), (1, .int p0)] := hl
  have rg_p0 := fb_rng p0
  refine lv_iload_n hx hb dX1_hasNode_0 rfl (lv_at hl 1 rfl) ?_
  refine lv_if_lt (tgt := 16) hx hb dX1_hasNode_1 (by decide) (fun c_3 => ?_) (fun c_3 => ?_)
  · skip
    have gc_3 := ti_lt c_3 rfl kc_0
    refine lv_iconst (v := 0) hx hb dX1_hasNode_16 (by decide) ?_
    have hP9 := hP.sub (ws' := [(oC, .inr (1, [.int iC_nodes, .int iC_words, .int iC_chances, .int iC_unsures, .int iC_slips, .int iC_throneNode, .int iC_saidWorth, .int iC_unit, .ref rC_kind, .ref rC_parts, .ref rC_partNodes, .ref rC_weights, .ref rC_weightSums, .ref rC_toldWorths, .ref rC_steps, .ref rC_below, .ref rC_above, .ref rC_unsureWords, .ref rC_unsureWorths]))]) [0] rfl
    have hD9 := hD.sub (ws' := [(oC, .inr (1, [.int iC_nodes, .int iC_words, .int iC_chances, .int iC_unsures, .int iC_slips, .int iC_throneNode, .int iC_saidWorth, .int iC_unit, .ref rC_kind, .ref rC_parts, .ref rC_partNodes, .ref rC_weights, .ref rC_weightSums, .ref rC_toldWorths, .ref rC_steps, .ref rC_below, .ref rC_above, .ref rC_unsureWords, .ref rC_unsureWorths]))]) [0] (by decide) rfl
    have hK9 := hK.sub (tys' := []) [] rfl
    exact W.zret (v := 0) hx hb hr rfl (fun t ht hW => ⟨⟨_, 0, rfl, ⟨Or.inl rfl, (Or.inr (⟨rfl, by first | trivial | omega⟩))⟩, Bw.to hP9 hD9 hK9 ht hW⟩, hS.F ht⟩) hS.2.2 dX1_hasNode_17
  · skip
    have gc_3 := ti_nlt c_3 rfl kc_0
    refine lv_iload_n hx hb dX1_hasNode_4 rfl (lv_at hl 1 rfl) ?_
    refine lv_aload_n hx hb dX1_hasNode_5 rfl (lv_at hl 0 rfl) ?_
    refine va_get (D := (dC, dI)) (ci := 1) (v := .int iC_nodes) (C := RX1) (T := TX1) (N := 19) hx hb hts inX1 hown hK hP 0 rfl rfl 0 (by decide) (hts _ wd_215) (fun _ h9 => h9) rfl dX1_hasNode_6 ?_
    have rg_iC_nodes := fb_rng iC_nodes
    refine lv_icmp_ge (tgt := 16) hx hb dX1_hasNode_9 (by decide) (fun c_4 => ?_) (fun c_4 => ?_)
    · skip
      have gc_4 := ti_le c_4 rfl rfl
      refine lv_iconst (v := 0) hx hb dX1_hasNode_16 (by decide) ?_
      have hP9 := hP.sub (ws' := [(oC, .inr (1, [.int iC_nodes, .int iC_words, .int iC_chances, .int iC_unsures, .int iC_slips, .int iC_throneNode, .int iC_saidWorth, .int iC_unit, .ref rC_kind, .ref rC_parts, .ref rC_partNodes, .ref rC_weights, .ref rC_weightSums, .ref rC_toldWorths, .ref rC_steps, .ref rC_below, .ref rC_above, .ref rC_unsureWords, .ref rC_unsureWorths]))]) [0] rfl
      have hD9 := hD.sub (ws' := [(oC, .inr (1, [.int iC_nodes, .int iC_words, .int iC_chances, .int iC_unsures, .int iC_slips, .int iC_throneNode, .int iC_saidWorth, .int iC_unit, .ref rC_kind, .ref rC_parts, .ref rC_partNodes, .ref rC_weights, .ref rC_weightSums, .ref rC_toldWorths, .ref rC_steps, .ref rC_below, .ref rC_above, .ref rC_unsureWords, .ref rC_unsureWorths]))]) [0] (by decide) rfl
      have hK9 := hK.sub (tys' := []) [] rfl
      exact W.zret (v := 0) hx hb hr rfl (fun t ht hW => ⟨⟨_, 0, rfl, ⟨Or.inl rfl, (Or.inr (⟨rfl, by first | trivial | omega⟩))⟩, Bw.to hP9 hD9 hK9 ht hW⟩, hS.F ht⟩) hS.2.2 dX1_hasNode_17
    · skip
      have gc_4 := ti_nle c_4 rfl rfl
      refine lv_iconst (v := 1) hx hb dX1_hasNode_12 (by decide) ?_
      refine lv_goto (tgt := 17) hx hb dX1_hasNode_13 (by decide) ?_
      have hP9 := hP.sub (ws' := [(oC, .inr (1, [.int iC_nodes, .int iC_words, .int iC_chances, .int iC_unsures, .int iC_slips, .int iC_throneNode, .int iC_saidWorth, .int iC_unit, .ref rC_kind, .ref rC_parts, .ref rC_partNodes, .ref rC_weights, .ref rC_weightSums, .ref rC_toldWorths, .ref rC_steps, .ref rC_below, .ref rC_above, .ref rC_unsureWords, .ref rC_unsureWorths]))]) [0] rfl
      have hD9 := hD.sub (ws' := [(oC, .inr (1, [.int iC_nodes, .int iC_words, .int iC_chances, .int iC_unsures, .int iC_slips, .int iC_throneNode, .int iC_saidWorth, .int iC_unit, .ref rC_kind, .ref rC_parts, .ref rC_partNodes, .ref rC_weights, .ref rC_weightSums, .ref rC_toldWorths, .ref rC_steps, .ref rC_below, .ref rC_above, .ref rC_unsureWords, .ref rC_unsureWorths]))]) [0] (by decide) rfl
      have hK9 := hK.sub (tys' := []) [] rfl
      exact W.zret (v := 1) hx hb hr rfl (fun t ht hW => ⟨⟨_, 0, rfl, ⟨Or.inr rfl, (Or.inl ⟨rfl, by first | trivial | omega⟩)⟩, Bw.to hP9 hD9 hK9 ht hW⟩, hS.F ht⟩) hS.2.2 dX1_hasNode_17
set_option maxHeartbeats 4000000 in
set_option maxRecDepth 100000 in
theorem tX1_hasWord (l : Launch) (dC : Nat → ClassId) (dI : Nat → Nat → Nat) (sz : Nat) (oC : Nat) (iC_nodes : Int32) (iC_words : Int32) (iC_chances : Int32) (iC_unsures : Int32) (iC_slips : Int32) (iC_throneNode : Int32) (iC_saidWorth : Int32) (iC_unit : Int32) (rC_kind : Nat) (fC_kind : Nat → Int32) (kC_kind : ClassId) (rC_parts : Nat) (rC_partNodes : Nat) (rC_weights : Nat) (rC_weightSums : Nat) (rC_toldWorths : Nat) (rC_steps : Nat) (rC_below : Nat) (rC_above : Nat) (rC_unsureWords : Nat) (rC_unsureWorths : Nat) (p0 : Int32) (b_iC_nodes : 0 ≤ iC_nodes.toInt ∧ iC_nodes.toInt ≤ 18) (b_iC_unsures : 0 ≤ iC_unsures.toInt ∧ iC_unsures.toInt ≤ 4)  : Met l yX1_hasWord (Cond.code yX1_hasWord cX1_hasWord 2 (some .boolean) :: wG) ({ frames := 1, cells := 0, slots := 0, locals := 21 }) (va_Pc [.ref oC, .int p0] (Pw dC dI sz [(oC, .inr (1, [.int iC_nodes, .int iC_words, .int iC_chances, .int iC_unsures, .int iC_slips, .int iC_throneNode, .int iC_saidWorth, .int iC_unit, .ref rC_kind, .ref rC_parts, .ref rC_partNodes, .ref rC_weights, .ref rC_weightSums, .ref rC_toldWorths, .ref rC_steps, .ref rC_below, .ref rC_above, .ref rC_unsureWords, .ref rC_unsureWorths])), (rC_kind, .inl (kC_kind, 18, .inl fC_kind))] [(kC_kind, .int)])) (va_Qi (fun (r : Int32) (_ : Nat) => (r = 0 ∨ r = 1) ∧ ((r = 1 ∧ 0 ≤ p0.toInt ∧ p0.toInt < iC_nodes.toInt) ∨ (r = 0 ∧ True))) (fun (_ : Nat) (t : State) => Bw dC dI (va_A [(oC, .inr (1, [.int iC_nodes, .int iC_words, .int iC_chances, .int iC_unsures, .int iC_slips, .int iC_throneNode, .int iC_saidWorth, .int iC_unit, .ref rC_kind, .ref rC_parts, .ref rC_partNodes, .ref rC_weights, .ref rC_weightSums, .ref rC_toldWorths, .ref rC_steps, .ref rC_below, .ref rC_above, .ref rC_unsureWords, .ref rC_unsureWorths])), (rC_kind, .inl (kC_kind, 18, .inl fC_kind))] sz) [(oC, .inr (1, [.int iC_nodes, .int iC_words, .int iC_chances, .int iC_unsures, .int iC_slips, .int iC_throneNode, .int iC_saidWorth, .int iC_unit, .ref rC_kind, .ref rC_parts, .ref rC_partNodes, .ref rC_weights, .ref rC_weightSums, .ref rC_toldWorths, .ref rC_steps, .ref rC_below, .ref rC_above, .ref rC_unsureWords, .ref rC_unsureWorths])), (rC_kind, .inl (kC_kind, 18, .inl fC_kind))] [(kC_kind, .int)] t) (va_A [(oC, .inr (1, [.int iC_nodes, .int iC_words, .int iC_chances, .int iC_unsures, .int iC_slips, .int iC_throneNode, .int iC_saidWorth, .int iC_unit, .ref rC_kind, .ref rC_parts, .ref rC_partNodes, .ref rC_weights, .ref rC_weightSums, .ref rC_toldWorths, .ref rC_steps, .ref rC_below, .ref rC_above, .ref rC_unsureWords, .ref rC_unsureWorths])), (rC_kind, .inl (kC_kind, 18, .inl fC_kind))] sz)) 0 0 (va_A [(oC, .inr (1, [.int iC_nodes, .int iC_words, .int iC_chances, .int iC_unsures, .int iC_slips, .int iC_throneNode, .int iC_saidWorth, .int iC_unit, .ref rC_kind, .ref rC_parts, .ref rC_partNodes, .ref rC_weights, .ref rC_weightSums, .ref rC_toldWorths, .ref rC_steps, .ref rC_below, .ref rC_above, .ref rC_unsureWords, .ref rC_unsureWorths])), (rC_kind, .inl (kC_kind, 18, .inl fC_kind))] sz) := by
  refine Met.ofW (cc := cX1_hasWord) (maxL := 2) (ret := (some .boolean)) (by decide) rfl ?_
  intro p e s m args below meth c s₁ B hml hv
  obtain ⟨rfl, hsz, hP, hK, hD0, hE⟩ := hv
  have hx := B.exec
  have hb := B.bytes
  have hr := B.returns
  have hts : ∀ w ∈ wG, w.before ([.ref oC, .int p0] : List Value).toArray s = true := fun w h => atoms_spec (ws := Cond.code yX1_hasWord cX1_hasWord 2 (some .boolean) :: wG) B.pre w (List.mem_cons_of_mem _ h)
  have hown : s.vm.findClass RX1 = some m.cls := findClass_of_methodNamed B.named
  have hlocks := B.notSynchronized
  subst hsz
  have hD := hD0.self (sz := s.heap.size)
  generalize hAe : va_A [(oC, .inr (1, [.int iC_nodes, .int iC_words, .int iC_chances, .int iC_unsures, .int iC_slips, .int iC_throneNode, .int iC_saidWorth, .int iC_unit, .ref rC_kind, .ref rC_parts, .ref rC_partNodes, .ref rC_weights, .ref rC_weightSums, .ref rC_toldWorths, .ref rC_steps, .ref rC_below, .ref rC_above, .ref rC_unsureWords, .ref rC_unsureWorths])), (rC_kind, .inl (kC_kind, 18, .inl fC_kind))] s.heap.size = A at hD hE ⊢
  have hA : ∀ q : Nat, s.heap.size ≤ q → A q := fun q h => by rw [← hAe]; exact Or.inr h
  have hS : va_S A s.heap s.heap [] := va_S.rf
  have hl := lv_entry ([.ref oC, .int p0]) (n := 2) (Nat.le_of_ble_eq_true rfl)
  rw [lg_entry_eq]
  generalize (lg_sl ([.ref oC, .int p0]) ++ List.replicate (2 - (lg_sl ([.ref oC, .int p0])).length) Slot.unset).toArray = ls at hl ⊢
  have hl : lv_has ls 2 [(0, .ref oC), (1, .int p0)] := hl
  have rg_p0 := fb_rng p0
  refine lv_aload_n hx hb dX1_hasWord_0 rfl (lv_at hl 0 rfl) ?_
  refine lv_iload_n hx hb dX1_hasWord_1 rfl (lv_at hl 1 rfl) ?_
  have hPc := hP.sub (ws' := [(oC, .inr (1, [.int iC_nodes, .int iC_words, .int iC_chances, .int iC_unsures, .int iC_slips, .int iC_throneNode, .int iC_saidWorth, .int iC_unit, .ref rC_kind, .ref rC_parts, .ref rC_partNodes, .ref rC_weights, .ref rC_weightSums, .ref rC_toldWorths, .ref rC_steps, .ref rC_below, .ref rC_above, .ref rC_unsureWords, .ref rC_unsureWorths]))]) [0] rfl
  have hDc := hD.sub (ws' := [(oC, .inr (1, [.int iC_nodes, .int iC_words, .int iC_chances, .int iC_unsures, .int iC_slips, .int iC_throneNode, .int iC_saidWorth, .int iC_unit, .ref rC_kind, .ref rC_parts, .ref rC_partNodes, .ref rC_weights, .ref rC_weightSums, .ref rC_toldWorths, .ref rC_steps, .ref rC_below, .ref rC_above, .ref rC_unsureWords, .ref rC_unsureWorths]))]) [0] (by decide) rfl
  have hKc := hK.sub (tys' := []) [] rfl
  have hFc := va_free (wc := [(oC, .inr (1, [.int iC_nodes, .int iC_words, .int iC_chances, .int iC_unsures, .int iC_slips, .int iC_throneNode, .int iC_saidWorth, .int iC_unit, .ref rC_kind, .ref rC_parts, .ref rC_partNodes, .ref rC_weights, .ref rC_weightSums, .ref rC_toldWorths, .ref rC_steps, .ref rC_below, .ref rC_above, .ref rC_unsureWords, .ref rC_unsureWorths]))]) hD hS hA [0] rfl
  refine va_calli (va_runV (As := [.int p0]) (rest := []) ⟨hx, hb, hml, hown, hts⟩ (tX1_hasNode l dC dI _ oC iC_nodes iC_words iC_chances iC_unsures iC_slips iC_throneNode iC_saidWorth iC_unit rC_kind rC_parts rC_partNodes rC_weights rC_weightSums rC_toldWorths rC_steps rC_below rC_above rC_unsureWords rC_unsureWorths p0 (by first | omega | decide) (by first | omega | decide)) (cwV 1 hts (wd_V wd_325 wd_326 wd_327 wd_19 (wd_c wd_328)) rfl rfl rfl (by decide +kernel) ⟨Nat.le_of_ble_eq_true rfl, Nat.le_of_ble_eq_true rfl⟩) ⟨Pw.fb, va_recv hKc hPc (ci := 1) (q0 := 0) rfl rfl, fun U hU hW => Pw.to hPc hDc hKc hE hS hFc hU hW⟩ rfl rfl hl.1 rfl (lv_room (Nat.le_of_ble_eq_true rfl)) dX1_hasWord_2 ⟨Nat.le_of_ble_eq_true rfl, Nat.le_of_ble_eq_true rfl⟩) hS (fun q _ h => hFc q h) hFc (fun r u t H locs ht hvm hw hB hz1 hk1 hS => ?_)
  obtain ⟨hP, hD, hK⟩ := Bw.back (wc := [(oC, .inr (1, [.int iC_nodes, .int iC_words, .int iC_chances, .int iC_unsures, .int iC_slips, .int iC_throneNode, .int iC_saidWorth, .int iC_unit, .ref rC_kind, .ref rC_parts, .ref rC_partNodes, .ref rC_weights, .ref rC_weightSums, .ref rC_toldWorths, .ref rC_steps, .ref rC_below, .ref rC_above, .ref rC_unsureWords, .ref rC_unsureWorths]))]) (wr := [(rC_kind, .inl (kC_kind, 18, .inl fC_kind))]) (tyr := [(kC_kind, .int)]) hB rfl ht hvm hP hD hK [0] [1] rfl rfl (by decide) (by decide) [0] rfl hk1 hFc
  have hP : va_P (dC, dI) vwCl [(rC_kind, .inl (kC_kind, 18, .inl fC_kind)), (oC, .inr (1, [.int iC_nodes, .int iC_words, .int iC_chances, .int iC_unsures, .int iC_slips, .int iC_throneNode, .int iC_saidWorth, .int iC_unit, .ref rC_kind, .ref rC_parts, .ref rC_partNodes, .ref rC_weights, .ref rC_weightSums, .ref rC_toldWorths, .ref rC_steps, .ref rC_below, .ref rC_above, .ref rC_unsureWords, .ref rC_unsureWorths]))] H := hP
  have hD : va_D A [(rC_kind, .inl (kC_kind, 18, .inl fC_kind)), (oC, .inr (1, [.int iC_nodes, .int iC_words, .int iC_chances, .int iC_unsures, .int iC_slips, .int iC_throneNode, .int iC_saidWorth, .int iC_unit, .ref rC_kind, .ref rC_parts, .ref rC_partNodes, .ref rC_weights, .ref rC_weightSums, .ref rC_toldWorths, .ref rC_steps, .ref rC_below, .ref rC_above, .ref rC_unsureWords, .ref rC_unsureWorths]))] := hD
  have hK : va_K (dC, dI) vwCl [(kC_kind, .int)] s := hK
  rcases hw.2 with ⟨rfl, hc_10⟩ | ⟨rfl, hc_10⟩
  · skip
    have rg_iC_nodes := fb_rng iC_nodes
    refine lv_if_eq (tgt := 21) hx hb dX1_hasWord_5 (by decide) (fun c => absurd c (by decide)) (fun _ => ?_)
    refine lv_aload_n hx hb dX1_hasWord_8 rfl (lv_at hl 0 rfl) ?_
    refine va_get (D := (dC, dI)) (ci := 1) (v := .ref rC_kind) (C := RX1) (T := TX1) (N := 19) hx hb hts inX1 hown hK hP 1 rfl rfl 8 (by decide) (hts _ wd_54) (fun _ h9 => h9) rfl dX1_hasWord_9 ?_
    refine lv_iload_n hx hb dX1_hasWord_12 rfl (lv_at hl 1 rfl) ?_
    refine va_iald hx hb hK hP 0 0 rfl rfl (ti_in rfl (by omega) (by omega)) dX1_hasWord_13 ?_
    refine lv_topi (fun x_12 ex_12 => ?_)
    have rg_x_12 := fb_rng x_12
    have kx_12 : (fC_kind p0.toNatClampNeg).toInt = x_12.toInt := by rw [ex_12]
    refine lv_if_ne (tgt := 21) hx hb dX1_hasWord_14 (by decide) (fun c_13 => ?_) (fun c_13 => ?_)
    · skip
      have gc_13 := ti_ne c_13 rfl kc_0
      refine lv_iconst (v := 0) hx hb dX1_hasWord_21 (by decide) ?_
      have hP9 := hP.sub (ws' := [(oC, .inr (1, [.int iC_nodes, .int iC_words, .int iC_chances, .int iC_unsures, .int iC_slips, .int iC_throneNode, .int iC_saidWorth, .int iC_unit, .ref rC_kind, .ref rC_parts, .ref rC_partNodes, .ref rC_weights, .ref rC_weightSums, .ref rC_toldWorths, .ref rC_steps, .ref rC_below, .ref rC_above, .ref rC_unsureWords, .ref rC_unsureWorths])), (rC_kind, .inl (kC_kind, 18, .inl fC_kind))]) [1, 0] rfl
      have hD9 := hD.sub (ws' := [(oC, .inr (1, [.int iC_nodes, .int iC_words, .int iC_chances, .int iC_unsures, .int iC_slips, .int iC_throneNode, .int iC_saidWorth, .int iC_unit, .ref rC_kind, .ref rC_parts, .ref rC_partNodes, .ref rC_weights, .ref rC_weightSums, .ref rC_toldWorths, .ref rC_steps, .ref rC_below, .ref rC_above, .ref rC_unsureWords, .ref rC_unsureWorths])), (rC_kind, .inl (kC_kind, 18, .inl fC_kind))]) [1, 0] (by decide) rfl
      have hK9 := hK.sub (tys' := [(kC_kind, .int)]) [0] rfl
      exact W.zret (v := 0) hx hb hr rfl (fun t ht hW => ⟨⟨_, 0, rfl, ⟨Or.inl rfl, (Or.inr (⟨rfl, by first | trivial | omega⟩))⟩, Bw.to hP9 hD9 hK9 ht hW⟩, hS.F ht⟩) hS.2.2 dX1_hasWord_22
    · skip
      have gc_13 := ti_eq c_13 rfl kc_0
      refine lv_iconst (v := 1) hx hb dX1_hasWord_17 (by decide) ?_
      refine lv_goto (tgt := 22) hx hb dX1_hasWord_18 (by decide) ?_
      have hP9 := hP.sub (ws' := [(oC, .inr (1, [.int iC_nodes, .int iC_words, .int iC_chances, .int iC_unsures, .int iC_slips, .int iC_throneNode, .int iC_saidWorth, .int iC_unit, .ref rC_kind, .ref rC_parts, .ref rC_partNodes, .ref rC_weights, .ref rC_weightSums, .ref rC_toldWorths, .ref rC_steps, .ref rC_below, .ref rC_above, .ref rC_unsureWords, .ref rC_unsureWorths])), (rC_kind, .inl (kC_kind, 18, .inl fC_kind))]) [1, 0] rfl
      have hD9 := hD.sub (ws' := [(oC, .inr (1, [.int iC_nodes, .int iC_words, .int iC_chances, .int iC_unsures, .int iC_slips, .int iC_throneNode, .int iC_saidWorth, .int iC_unit, .ref rC_kind, .ref rC_parts, .ref rC_partNodes, .ref rC_weights, .ref rC_weightSums, .ref rC_toldWorths, .ref rC_steps, .ref rC_below, .ref rC_above, .ref rC_unsureWords, .ref rC_unsureWorths])), (rC_kind, .inl (kC_kind, 18, .inl fC_kind))]) [1, 0] (by decide) rfl
      have hK9 := hK.sub (tys' := [(kC_kind, .int)]) [0] rfl
      exact W.zret (v := 1) hx hb hr rfl (fun t ht hW => ⟨⟨_, 0, rfl, ⟨Or.inr rfl, (Or.inl ⟨rfl, by first | trivial | omega⟩)⟩, Bw.to hP9 hD9 hK9 ht hW⟩, hS.F ht⟩) hS.2.2 dX1_hasWord_22
  · skip
    refine lv_if_eq (tgt := 21) hx hb dX1_hasWord_5 (by decide) (fun _ => ?_) (fun c => absurd c (by decide))
    refine lv_iconst (v := 0) hx hb dX1_hasWord_21 (by decide) ?_
    have hP9 := hP.sub (ws' := [(oC, .inr (1, [.int iC_nodes, .int iC_words, .int iC_chances, .int iC_unsures, .int iC_slips, .int iC_throneNode, .int iC_saidWorth, .int iC_unit, .ref rC_kind, .ref rC_parts, .ref rC_partNodes, .ref rC_weights, .ref rC_weightSums, .ref rC_toldWorths, .ref rC_steps, .ref rC_below, .ref rC_above, .ref rC_unsureWords, .ref rC_unsureWorths])), (rC_kind, .inl (kC_kind, 18, .inl fC_kind))]) [1, 0] rfl
    have hD9 := hD.sub (ws' := [(oC, .inr (1, [.int iC_nodes, .int iC_words, .int iC_chances, .int iC_unsures, .int iC_slips, .int iC_throneNode, .int iC_saidWorth, .int iC_unit, .ref rC_kind, .ref rC_parts, .ref rC_partNodes, .ref rC_weights, .ref rC_weightSums, .ref rC_toldWorths, .ref rC_steps, .ref rC_below, .ref rC_above, .ref rC_unsureWords, .ref rC_unsureWorths])), (rC_kind, .inl (kC_kind, 18, .inl fC_kind))]) [1, 0] (by decide) rfl
    have hK9 := hK.sub (tys' := [(kC_kind, .int)]) [0] rfl
    exact W.zret (v := 0) hx hb hr rfl (fun t ht hW => ⟨⟨_, 0, rfl, ⟨Or.inl rfl, (Or.inr (⟨rfl, by first | trivial | omega⟩))⟩, Bw.to hP9 hD9 hK9 ht hW⟩, hS.F ht⟩) hS.2.2 dX1_hasWord_22
set_option maxHeartbeats 4000000 in
set_option maxRecDepth 100000 in
theorem tX1_hasRoomFor (l : Launch) (dC : Nat → ClassId) (dI : Nat → Nat → Nat) (sz : Nat) (oC : Nat) (iC_nodes : Int32) (iC_words : Int32) (iC_chances : Int32) (iC_unsures : Int32) (iC_slips : Int32) (iC_throneNode : Int32) (iC_saidWorth : Int32) (iC_unit : Int32) (rC_kind : Nat) (rC_parts : Nat) (rC_partNodes : Nat) (rC_weights : Nat) (rC_weightSums : Nat) (rC_toldWorths : Nat) (rC_steps : Nat) (rC_below : Nat) (rC_above : Nat) (rC_unsureWords : Nat) (rC_unsureWorths : Nat) (p0 : Int32) (b_iC_nodes : 0 ≤ iC_nodes.toInt ∧ iC_nodes.toInt ≤ 18) (b_iC_unsures : 0 ≤ iC_unsures.toInt ∧ iC_unsures.toInt ≤ 4)  : Met l yX1_hasRoomFor (Cond.code yX1_hasRoomFor cX1_hasRoomFor 2 (some .boolean) :: wG) ({ frames := 0, cells := 0, slots := 0, locals := 0 }) (va_Pc [.ref oC, .int p0] (Pw dC dI sz [(oC, .inr (1, [.int iC_nodes, .int iC_words, .int iC_chances, .int iC_unsures, .int iC_slips, .int iC_throneNode, .int iC_saidWorth, .int iC_unit, .ref rC_kind, .ref rC_parts, .ref rC_partNodes, .ref rC_weights, .ref rC_weightSums, .ref rC_toldWorths, .ref rC_steps, .ref rC_below, .ref rC_above, .ref rC_unsureWords, .ref rC_unsureWorths]))] [])) (va_Qi (fun (r : Int32) (_ : Nat) => (r = 0 ∨ r = 1) ∧ ((r = 1 ∧ iC_nodes.toInt < 18) ∨ (r = 0 ∧ True))) (fun (_ : Nat) (t : State) => Bw dC dI (va_A [(oC, .inr (1, [.int iC_nodes, .int iC_words, .int iC_chances, .int iC_unsures, .int iC_slips, .int iC_throneNode, .int iC_saidWorth, .int iC_unit, .ref rC_kind, .ref rC_parts, .ref rC_partNodes, .ref rC_weights, .ref rC_weightSums, .ref rC_toldWorths, .ref rC_steps, .ref rC_below, .ref rC_above, .ref rC_unsureWords, .ref rC_unsureWorths]))] sz) [(oC, .inr (1, [.int iC_nodes, .int iC_words, .int iC_chances, .int iC_unsures, .int iC_slips, .int iC_throneNode, .int iC_saidWorth, .int iC_unit, .ref rC_kind, .ref rC_parts, .ref rC_partNodes, .ref rC_weights, .ref rC_weightSums, .ref rC_toldWorths, .ref rC_steps, .ref rC_below, .ref rC_above, .ref rC_unsureWords, .ref rC_unsureWorths]))] [] t) (va_A [(oC, .inr (1, [.int iC_nodes, .int iC_words, .int iC_chances, .int iC_unsures, .int iC_slips, .int iC_throneNode, .int iC_saidWorth, .int iC_unit, .ref rC_kind, .ref rC_parts, .ref rC_partNodes, .ref rC_weights, .ref rC_weightSums, .ref rC_toldWorths, .ref rC_steps, .ref rC_below, .ref rC_above, .ref rC_unsureWords, .ref rC_unsureWorths]))] sz)) 0 0 (va_A [(oC, .inr (1, [.int iC_nodes, .int iC_words, .int iC_chances, .int iC_unsures, .int iC_slips, .int iC_throneNode, .int iC_saidWorth, .int iC_unit, .ref rC_kind, .ref rC_parts, .ref rC_partNodes, .ref rC_weights, .ref rC_weightSums, .ref rC_toldWorths, .ref rC_steps, .ref rC_below, .ref rC_above, .ref rC_unsureWords, .ref rC_unsureWorths]))] sz) := by
  refine Met.ofW (cc := cX1_hasRoomFor) (maxL := 2) (ret := (some .boolean)) (by decide) rfl ?_
  intro p e s m args below meth c s₁ B hml hv
  obtain ⟨rfl, hsz, hP, hK, hD0, hE⟩ := hv
  have hx := B.exec
  have hb := B.bytes
  have hr := B.returns
  have hts : ∀ w ∈ wG, w.before ([.ref oC, .int p0] : List Value).toArray s = true := fun w h => atoms_spec (ws := Cond.code yX1_hasRoomFor cX1_hasRoomFor 2 (some .boolean) :: wG) B.pre w (List.mem_cons_of_mem _ h)
  have hown : s.vm.findClass RX1 = some m.cls := findClass_of_methodNamed B.named
  have hlocks := B.notSynchronized
  subst hsz
  have hD := hD0.self (sz := s.heap.size)
  generalize hAe : va_A [(oC, .inr (1, [.int iC_nodes, .int iC_words, .int iC_chances, .int iC_unsures, .int iC_slips, .int iC_throneNode, .int iC_saidWorth, .int iC_unit, .ref rC_kind, .ref rC_parts, .ref rC_partNodes, .ref rC_weights, .ref rC_weightSums, .ref rC_toldWorths, .ref rC_steps, .ref rC_below, .ref rC_above, .ref rC_unsureWords, .ref rC_unsureWorths]))] s.heap.size = A at hD hE ⊢
  have hA : ∀ q : Nat, s.heap.size ≤ q → A q := fun q h => by rw [← hAe]; exact Or.inr h
  have hS : va_S A s.heap s.heap [] := va_S.rf
  have hl := lv_entry ([.ref oC, .int p0]) (n := 2) (Nat.le_of_ble_eq_true rfl)
  rw [lg_entry_eq]
  generalize (lg_sl ([.ref oC, .int p0]) ++ List.replicate (2 - (lg_sl ([.ref oC, .int p0])).length) Slot.unset).toArray = ls at hl ⊢
  have hl : lv_has ls 2 [(0, .ref oC), (1, .int p0)] := hl
  have rg_p0 := fb_rng p0
  refine lv_aload_n hx hb dX1_hasRoomFor_0 rfl (lv_at hl 0 rfl) ?_
  refine va_get (D := (dC, dI)) (ci := 1) (v := .int iC_nodes) (C := RX1) (T := TX1) (N := 19) hx hb hts inX1 hown hK hP 0 rfl rfl 0 (by decide) (hts _ wd_215) (fun _ h9 => h9) rfl dX1_hasRoomFor_1 ?_
  have rg_iC_nodes := fb_rng iC_nodes
  refine lv_bipush (v := 18) hx hb dX1_hasRoomFor_4 (by decide) ?_
  refine lv_icmp_lt (tgt := 11) hx hb dX1_hasRoomFor_6 (by decide) (fun c_22 => ?_) (fun c_22 => ?_)
  · skip
    have gc_22 := ti_lt c_22 rfl kc_18
    refine lv_iload_n hx hb dX1_hasRoomFor_11 rfl (lv_at hl 1 rfl) ?_
    refine lv_if_ne (tgt := 30) hx hb dX1_hasRoomFor_12 (by decide) (fun c_23 => ?_) (fun c_23 => ?_)
    · skip
      have gc_23 := ti_ne c_23 rfl kc_0
      refine lv_aload_n hx hb dX1_hasRoomFor_30 rfl (lv_at hl 0 rfl) ?_
      refine va_get (D := (dC, dI)) (ci := 1) (v := .int iC_nodes) (C := RX1) (T := TX1) (N := 19) hx hb hts inX1 hown hK hP 0 rfl rfl 0 (by decide) (hts _ wd_215) (fun _ h9 => h9) rfl dX1_hasRoomFor_31 ?_
      refine lv_aload_n hx hb dX1_hasRoomFor_34 rfl (lv_at hl 0 rfl) ?_
      refine va_get (D := (dC, dI)) (ci := 1) (v := .int iC_words) (C := RX1) (T := TX1) (N := 19) hx hb hts inX1 hown hK hP 0 rfl rfl 1 (by decide) (hts _ wd_216) (fun _ h9 => h9) rfl dX1_hasRoomFor_35 ?_
      have rg_iC_words := fb_rng iC_words
      refine lv_isub hx hb dX1_hasRoomFor_38 ?_
      refine lv_topi (fun x_24 ex_24 => ?_)
      have rg_x_24 := fb_rng x_24
      refine lv_bipush (v := 8) hx hb dX1_hasRoomFor_39 (by decide) ?_
      refine lv_icmp_ge (tgt := 61) hx hb dX1_hasRoomFor_41 (by decide) (fun c_25 => ?_) (fun c_25 => ?_)
      · skip
        have gc_25 := ti_le c_25 kc_8 rfl
        refine lv_iconst (v := 0) hx hb dX1_hasRoomFor_61 (by decide) ?_
        have hP9 := hP.sub (ws' := [(oC, .inr (1, [.int iC_nodes, .int iC_words, .int iC_chances, .int iC_unsures, .int iC_slips, .int iC_throneNode, .int iC_saidWorth, .int iC_unit, .ref rC_kind, .ref rC_parts, .ref rC_partNodes, .ref rC_weights, .ref rC_weightSums, .ref rC_toldWorths, .ref rC_steps, .ref rC_below, .ref rC_above, .ref rC_unsureWords, .ref rC_unsureWorths]))]) [0] rfl
        have hD9 := hD.sub (ws' := [(oC, .inr (1, [.int iC_nodes, .int iC_words, .int iC_chances, .int iC_unsures, .int iC_slips, .int iC_throneNode, .int iC_saidWorth, .int iC_unit, .ref rC_kind, .ref rC_parts, .ref rC_partNodes, .ref rC_weights, .ref rC_weightSums, .ref rC_toldWorths, .ref rC_steps, .ref rC_below, .ref rC_above, .ref rC_unsureWords, .ref rC_unsureWorths]))]) [0] (by decide) rfl
        have hK9 := hK.sub (tys' := []) [] rfl
        exact W.zret (v := 0) hx hb hr rfl (fun t ht hW => ⟨⟨_, 0, rfl, ⟨Or.inl rfl, (Or.inr (⟨rfl, by first | trivial | omega⟩))⟩, Bw.to hP9 hD9 hK9 ht hW⟩, hS.F ht⟩) hS.2.2 dX1_hasRoomFor_62
      · skip
        have gc_25 := ti_nle c_25 kc_8 rfl
        refine lv_iload_n hx hb dX1_hasRoomFor_44 rfl (lv_at hl 1 rfl) ?_
        refine lv_iconst (v := 3) hx hb dX1_hasRoomFor_45 (by decide) ?_
        refine lv_icmp_ne (tgt := 57) hx hb dX1_hasRoomFor_46 (by decide) (fun c_26 => ?_) (fun c_26 => ?_)
        · skip
          have gc_26 := ti_ne c_26 rfl kc_3
          refine lv_iconst (v := 1) hx hb dX1_hasRoomFor_57 (by decide) ?_
          refine lv_goto (tgt := 62) hx hb dX1_hasRoomFor_58 (by decide) ?_
          have hP9 := hP.sub (ws' := [(oC, .inr (1, [.int iC_nodes, .int iC_words, .int iC_chances, .int iC_unsures, .int iC_slips, .int iC_throneNode, .int iC_saidWorth, .int iC_unit, .ref rC_kind, .ref rC_parts, .ref rC_partNodes, .ref rC_weights, .ref rC_weightSums, .ref rC_toldWorths, .ref rC_steps, .ref rC_below, .ref rC_above, .ref rC_unsureWords, .ref rC_unsureWorths]))]) [0] rfl
          have hD9 := hD.sub (ws' := [(oC, .inr (1, [.int iC_nodes, .int iC_words, .int iC_chances, .int iC_unsures, .int iC_slips, .int iC_throneNode, .int iC_saidWorth, .int iC_unit, .ref rC_kind, .ref rC_parts, .ref rC_partNodes, .ref rC_weights, .ref rC_weightSums, .ref rC_toldWorths, .ref rC_steps, .ref rC_below, .ref rC_above, .ref rC_unsureWords, .ref rC_unsureWorths]))]) [0] (by decide) rfl
          have hK9 := hK.sub (tys' := []) [] rfl
          exact W.zret (v := 1) hx hb hr rfl (fun t ht hW => ⟨⟨_, 0, rfl, ⟨Or.inr rfl, (Or.inl ⟨rfl, by first | trivial | omega⟩)⟩, Bw.to hP9 hD9 hK9 ht hW⟩, hS.F ht⟩) hS.2.2 dX1_hasRoomFor_62
        · skip
          have gc_26 := ti_eq c_26 rfl kc_3
          refine lv_aload_n hx hb dX1_hasRoomFor_49 rfl (lv_at hl 0 rfl) ?_
          refine va_get (D := (dC, dI)) (ci := 1) (v := .int iC_chances) (C := RX1) (T := TX1) (N := 19) hx hb hts inX1 hown hK hP 0 rfl rfl 2 (by decide) (hts _ wd_217) (fun _ h9 => h9) rfl dX1_hasRoomFor_50 ?_
          have rg_iC_chances := fb_rng iC_chances
          refine lv_iconst (v := 2) hx hb dX1_hasRoomFor_53 (by decide) ?_
          refine lv_icmp_ge (tgt := 61) hx hb dX1_hasRoomFor_54 (by decide) (fun c_27 => ?_) (fun c_27 => ?_)
          · skip
            have gc_27 := ti_le c_27 kc_2 rfl
            refine lv_iconst (v := 0) hx hb dX1_hasRoomFor_61 (by decide) ?_
            have hP9 := hP.sub (ws' := [(oC, .inr (1, [.int iC_nodes, .int iC_words, .int iC_chances, .int iC_unsures, .int iC_slips, .int iC_throneNode, .int iC_saidWorth, .int iC_unit, .ref rC_kind, .ref rC_parts, .ref rC_partNodes, .ref rC_weights, .ref rC_weightSums, .ref rC_toldWorths, .ref rC_steps, .ref rC_below, .ref rC_above, .ref rC_unsureWords, .ref rC_unsureWorths]))]) [0] rfl
            have hD9 := hD.sub (ws' := [(oC, .inr (1, [.int iC_nodes, .int iC_words, .int iC_chances, .int iC_unsures, .int iC_slips, .int iC_throneNode, .int iC_saidWorth, .int iC_unit, .ref rC_kind, .ref rC_parts, .ref rC_partNodes, .ref rC_weights, .ref rC_weightSums, .ref rC_toldWorths, .ref rC_steps, .ref rC_below, .ref rC_above, .ref rC_unsureWords, .ref rC_unsureWorths]))]) [0] (by decide) rfl
            have hK9 := hK.sub (tys' := []) [] rfl
            exact W.zret (v := 0) hx hb hr rfl (fun t ht hW => ⟨⟨_, 0, rfl, ⟨Or.inl rfl, (Or.inr (⟨rfl, by first | trivial | omega⟩))⟩, Bw.to hP9 hD9 hK9 ht hW⟩, hS.F ht⟩) hS.2.2 dX1_hasRoomFor_62
          · skip
            have gc_27 := ti_nle c_27 kc_2 rfl
            refine lv_iconst (v := 1) hx hb dX1_hasRoomFor_57 (by decide) ?_
            refine lv_goto (tgt := 62) hx hb dX1_hasRoomFor_58 (by decide) ?_
            have hP9 := hP.sub (ws' := [(oC, .inr (1, [.int iC_nodes, .int iC_words, .int iC_chances, .int iC_unsures, .int iC_slips, .int iC_throneNode, .int iC_saidWorth, .int iC_unit, .ref rC_kind, .ref rC_parts, .ref rC_partNodes, .ref rC_weights, .ref rC_weightSums, .ref rC_toldWorths, .ref rC_steps, .ref rC_below, .ref rC_above, .ref rC_unsureWords, .ref rC_unsureWorths]))]) [0] rfl
            have hD9 := hD.sub (ws' := [(oC, .inr (1, [.int iC_nodes, .int iC_words, .int iC_chances, .int iC_unsures, .int iC_slips, .int iC_throneNode, .int iC_saidWorth, .int iC_unit, .ref rC_kind, .ref rC_parts, .ref rC_partNodes, .ref rC_weights, .ref rC_weightSums, .ref rC_toldWorths, .ref rC_steps, .ref rC_below, .ref rC_above, .ref rC_unsureWords, .ref rC_unsureWorths]))]) [0] (by decide) rfl
            have hK9 := hK.sub (tys' := []) [] rfl
            exact W.zret (v := 1) hx hb hr rfl (fun t ht hW => ⟨⟨_, 0, rfl, ⟨Or.inr rfl, (Or.inl ⟨rfl, by first | trivial | omega⟩)⟩, Bw.to hP9 hD9 hK9 ht hW⟩, hS.F ht⟩) hS.2.2 dX1_hasRoomFor_62
    · skip
      have gc_23 := ti_eq c_23 rfl kc_0
      refine lv_aload_n hx hb dX1_hasRoomFor_15 rfl (lv_at hl 0 rfl) ?_
      refine va_get (D := (dC, dI)) (ci := 1) (v := .int iC_words) (C := RX1) (T := TX1) (N := 19) hx hb hts inX1 hown hK hP 0 rfl rfl 1 (by decide) (hts _ wd_216) (fun _ h9 => h9) rfl dX1_hasRoomFor_16 ?_
      have rg_iC_words := fb_rng iC_words
      refine lv_bipush (v := 10) hx hb dX1_hasRoomFor_19 (by decide) ?_
      refine lv_icmp_ge (tgt := 28) hx hb dX1_hasRoomFor_21 (by decide) (fun c_28 => ?_) (fun c_28 => ?_)
      · skip
        have gc_28 := ti_le c_28 kc_10 rfl
        refine lv_iconst (v := 0) hx hb dX1_hasRoomFor_28 (by decide) ?_
        have hP9 := hP.sub (ws' := [(oC, .inr (1, [.int iC_nodes, .int iC_words, .int iC_chances, .int iC_unsures, .int iC_slips, .int iC_throneNode, .int iC_saidWorth, .int iC_unit, .ref rC_kind, .ref rC_parts, .ref rC_partNodes, .ref rC_weights, .ref rC_weightSums, .ref rC_toldWorths, .ref rC_steps, .ref rC_below, .ref rC_above, .ref rC_unsureWords, .ref rC_unsureWorths]))]) [0] rfl
        have hD9 := hD.sub (ws' := [(oC, .inr (1, [.int iC_nodes, .int iC_words, .int iC_chances, .int iC_unsures, .int iC_slips, .int iC_throneNode, .int iC_saidWorth, .int iC_unit, .ref rC_kind, .ref rC_parts, .ref rC_partNodes, .ref rC_weights, .ref rC_weightSums, .ref rC_toldWorths, .ref rC_steps, .ref rC_below, .ref rC_above, .ref rC_unsureWords, .ref rC_unsureWorths]))]) [0] (by decide) rfl
        have hK9 := hK.sub (tys' := []) [] rfl
        exact W.zret (v := 0) hx hb hr rfl (fun t ht hW => ⟨⟨_, 0, rfl, ⟨Or.inl rfl, (Or.inr (⟨rfl, by first | trivial | omega⟩))⟩, Bw.to hP9 hD9 hK9 ht hW⟩, hS.F ht⟩) hS.2.2 dX1_hasRoomFor_29
      · skip
        have gc_28 := ti_nle c_28 kc_10 rfl
        refine lv_iconst (v := 1) hx hb dX1_hasRoomFor_24 (by decide) ?_
        refine lv_goto (tgt := 29) hx hb dX1_hasRoomFor_25 (by decide) ?_
        have hP9 := hP.sub (ws' := [(oC, .inr (1, [.int iC_nodes, .int iC_words, .int iC_chances, .int iC_unsures, .int iC_slips, .int iC_throneNode, .int iC_saidWorth, .int iC_unit, .ref rC_kind, .ref rC_parts, .ref rC_partNodes, .ref rC_weights, .ref rC_weightSums, .ref rC_toldWorths, .ref rC_steps, .ref rC_below, .ref rC_above, .ref rC_unsureWords, .ref rC_unsureWorths]))]) [0] rfl
        have hD9 := hD.sub (ws' := [(oC, .inr (1, [.int iC_nodes, .int iC_words, .int iC_chances, .int iC_unsures, .int iC_slips, .int iC_throneNode, .int iC_saidWorth, .int iC_unit, .ref rC_kind, .ref rC_parts, .ref rC_partNodes, .ref rC_weights, .ref rC_weightSums, .ref rC_toldWorths, .ref rC_steps, .ref rC_below, .ref rC_above, .ref rC_unsureWords, .ref rC_unsureWorths]))]) [0] (by decide) rfl
        have hK9 := hK.sub (tys' := []) [] rfl
        exact W.zret (v := 1) hx hb hr rfl (fun t ht hW => ⟨⟨_, 0, rfl, ⟨Or.inr rfl, (Or.inl ⟨rfl, by first | trivial | omega⟩)⟩, Bw.to hP9 hD9 hK9 ht hW⟩, hS.F ht⟩) hS.2.2 dX1_hasRoomFor_29
  · skip
    have gc_22 := ti_nlt c_22 rfl kc_18
    refine lv_iconst (v := 0) hx hb dX1_hasRoomFor_9 (by decide) ?_
    have hP9 := hP.sub (ws' := [(oC, .inr (1, [.int iC_nodes, .int iC_words, .int iC_chances, .int iC_unsures, .int iC_slips, .int iC_throneNode, .int iC_saidWorth, .int iC_unit, .ref rC_kind, .ref rC_parts, .ref rC_partNodes, .ref rC_weights, .ref rC_weightSums, .ref rC_toldWorths, .ref rC_steps, .ref rC_below, .ref rC_above, .ref rC_unsureWords, .ref rC_unsureWorths]))]) [0] rfl
    have hD9 := hD.sub (ws' := [(oC, .inr (1, [.int iC_nodes, .int iC_words, .int iC_chances, .int iC_unsures, .int iC_slips, .int iC_throneNode, .int iC_saidWorth, .int iC_unit, .ref rC_kind, .ref rC_parts, .ref rC_partNodes, .ref rC_weights, .ref rC_weightSums, .ref rC_toldWorths, .ref rC_steps, .ref rC_below, .ref rC_above, .ref rC_unsureWords, .ref rC_unsureWorths]))]) [0] (by decide) rfl
    have hK9 := hK.sub (tys' := []) [] rfl
    exact W.zret (v := 0) hx hb hr rfl (fun t ht hW => ⟨⟨_, 0, rfl, ⟨Or.inl rfl, (Or.inr (⟨rfl, by first | trivial | omega⟩))⟩, Bw.to hP9 hD9 hK9 ht hW⟩, hS.F ht⟩) hS.2.2 dX1_hasRoomFor_10
set_option maxHeartbeats 4000000 in
set_option maxRecDepth 100000 in
theorem tX1_hasRoomForPart (l : Launch) (dC : Nat → ClassId) (dI : Nat → Nat → Nat) (sz : Nat) (oC : Nat) (iC_nodes : Int32) (iC_words : Int32) (iC_chances : Int32) (iC_unsures : Int32) (iC_slips : Int32) (iC_throneNode : Int32) (iC_saidWorth : Int32) (iC_unit : Int32) (rC_kind : Nat) (rC_parts : Nat) (fC_parts : Nat → Int32) (kC_parts : ClassId) (rC_partNodes : Nat) (rC_weights : Nat) (rC_weightSums : Nat) (rC_toldWorths : Nat) (rC_steps : Nat) (rC_below : Nat) (rC_above : Nat) (rC_unsureWords : Nat) (rC_unsureWorths : Nat) (b_iC_nodes : 0 ≤ iC_nodes.toInt ∧ iC_nodes.toInt ≤ 18) (b_iC_unsures : 0 ≤ iC_unsures.toInt ∧ iC_unsures.toInt ≤ 4) (a_fC_parts : ∀ j : Nat, j < 18 → 0 ≤ (fC_parts j).toInt ∧ (fC_parts j).toInt ≤ 4)  : Met l yX1_hasRoomForPart (Cond.code yX1_hasRoomForPart cX1_hasRoomForPart 1 (some .boolean) :: wG) ({ frames := 0, cells := 0, slots := 0, locals := 0 }) (va_Pc [.ref oC] (Pw dC dI sz [(oC, .inr (1, [.int iC_nodes, .int iC_words, .int iC_chances, .int iC_unsures, .int iC_slips, .int iC_throneNode, .int iC_saidWorth, .int iC_unit, .ref rC_kind, .ref rC_parts, .ref rC_partNodes, .ref rC_weights, .ref rC_weightSums, .ref rC_toldWorths, .ref rC_steps, .ref rC_below, .ref rC_above, .ref rC_unsureWords, .ref rC_unsureWorths])), (rC_parts, .inl (kC_parts, 18, .inl fC_parts))] [(kC_parts, .int)])) (va_Qi (fun (r : Int32) (_ : Nat) => (r = 0 ∨ r = 1) ∧ ((r = 1 ∧ iC_nodes.toInt < 18 ∧ (fC_parts iC_nodes.toNatClampNeg).toInt < 4) ∨ (r = 0 ∧ True))) (fun (_ : Nat) (t : State) => Bw dC dI (va_A [(oC, .inr (1, [.int iC_nodes, .int iC_words, .int iC_chances, .int iC_unsures, .int iC_slips, .int iC_throneNode, .int iC_saidWorth, .int iC_unit, .ref rC_kind, .ref rC_parts, .ref rC_partNodes, .ref rC_weights, .ref rC_weightSums, .ref rC_toldWorths, .ref rC_steps, .ref rC_below, .ref rC_above, .ref rC_unsureWords, .ref rC_unsureWorths])), (rC_parts, .inl (kC_parts, 18, .inl fC_parts))] sz) [(oC, .inr (1, [.int iC_nodes, .int iC_words, .int iC_chances, .int iC_unsures, .int iC_slips, .int iC_throneNode, .int iC_saidWorth, .int iC_unit, .ref rC_kind, .ref rC_parts, .ref rC_partNodes, .ref rC_weights, .ref rC_weightSums, .ref rC_toldWorths, .ref rC_steps, .ref rC_below, .ref rC_above, .ref rC_unsureWords, .ref rC_unsureWorths])), (rC_parts, .inl (kC_parts, 18, .inl fC_parts))] [(kC_parts, .int)] t) (va_A [(oC, .inr (1, [.int iC_nodes, .int iC_words, .int iC_chances, .int iC_unsures, .int iC_slips, .int iC_throneNode, .int iC_saidWorth, .int iC_unit, .ref rC_kind, .ref rC_parts, .ref rC_partNodes, .ref rC_weights, .ref rC_weightSums, .ref rC_toldWorths, .ref rC_steps, .ref rC_below, .ref rC_above, .ref rC_unsureWords, .ref rC_unsureWorths])), (rC_parts, .inl (kC_parts, 18, .inl fC_parts))] sz)) 0 0 (va_A [(oC, .inr (1, [.int iC_nodes, .int iC_words, .int iC_chances, .int iC_unsures, .int iC_slips, .int iC_throneNode, .int iC_saidWorth, .int iC_unit, .ref rC_kind, .ref rC_parts, .ref rC_partNodes, .ref rC_weights, .ref rC_weightSums, .ref rC_toldWorths, .ref rC_steps, .ref rC_below, .ref rC_above, .ref rC_unsureWords, .ref rC_unsureWorths])), (rC_parts, .inl (kC_parts, 18, .inl fC_parts))] sz) := by
  refine Met.ofW (cc := cX1_hasRoomForPart) (maxL := 1) (ret := (some .boolean)) (by decide) rfl ?_
  intro p e s m args below meth c s₁ B hml hv
  obtain ⟨rfl, hsz, hP, hK, hD0, hE⟩ := hv
  have hx := B.exec
  have hb := B.bytes
  have hr := B.returns
  have hts : ∀ w ∈ wG, w.before ([.ref oC] : List Value).toArray s = true := fun w h => atoms_spec (ws := Cond.code yX1_hasRoomForPart cX1_hasRoomForPart 1 (some .boolean) :: wG) B.pre w (List.mem_cons_of_mem _ h)
  have hown : s.vm.findClass RX1 = some m.cls := findClass_of_methodNamed B.named
  have hlocks := B.notSynchronized
  subst hsz
  have hD := hD0.self (sz := s.heap.size)
  generalize hAe : va_A [(oC, .inr (1, [.int iC_nodes, .int iC_words, .int iC_chances, .int iC_unsures, .int iC_slips, .int iC_throneNode, .int iC_saidWorth, .int iC_unit, .ref rC_kind, .ref rC_parts, .ref rC_partNodes, .ref rC_weights, .ref rC_weightSums, .ref rC_toldWorths, .ref rC_steps, .ref rC_below, .ref rC_above, .ref rC_unsureWords, .ref rC_unsureWorths])), (rC_parts, .inl (kC_parts, 18, .inl fC_parts))] s.heap.size = A at hD hE ⊢
  have hA : ∀ q : Nat, s.heap.size ≤ q → A q := fun q h => by rw [← hAe]; exact Or.inr h
  have hS : va_S A s.heap s.heap [] := va_S.rf
  have hl := lv_entry ([.ref oC]) (n := 1) (Nat.le_of_ble_eq_true rfl)
  rw [lg_entry_eq]
  generalize (lg_sl ([.ref oC]) ++ List.replicate (1 - (lg_sl ([.ref oC])).length) Slot.unset).toArray = ls at hl ⊢
  have hl : lv_has ls 1 [(0, .ref oC)] := hl
  refine lv_aload_n hx hb dX1_hasRoomForPart_0 rfl (lv_at hl 0 rfl) ?_
  refine va_get (D := (dC, dI)) (ci := 1) (v := .int iC_nodes) (C := RX1) (T := TX1) (N := 19) hx hb hts inX1 hown hK hP 0 rfl rfl 0 (by decide) (hts _ wd_215) (fun _ h9 => h9) rfl dX1_hasRoomForPart_1 ?_
  have rg_iC_nodes := fb_rng iC_nodes
  refine lv_bipush (v := 18) hx hb dX1_hasRoomForPart_4 (by decide) ?_
  refine lv_icmp_ge (tgt := 26) hx hb dX1_hasRoomForPart_6 (by decide) (fun c_32 => ?_) (fun c_32 => ?_)
  · skip
    have gc_32 := ti_le c_32 kc_18 rfl
    refine lv_iconst (v := 0) hx hb dX1_hasRoomForPart_26 (by decide) ?_
    have hP9 := hP.sub (ws' := [(oC, .inr (1, [.int iC_nodes, .int iC_words, .int iC_chances, .int iC_unsures, .int iC_slips, .int iC_throneNode, .int iC_saidWorth, .int iC_unit, .ref rC_kind, .ref rC_parts, .ref rC_partNodes, .ref rC_weights, .ref rC_weightSums, .ref rC_toldWorths, .ref rC_steps, .ref rC_below, .ref rC_above, .ref rC_unsureWords, .ref rC_unsureWorths])), (rC_parts, .inl (kC_parts, 18, .inl fC_parts))]) [0, 1] rfl
    have hD9 := hD.sub (ws' := [(oC, .inr (1, [.int iC_nodes, .int iC_words, .int iC_chances, .int iC_unsures, .int iC_slips, .int iC_throneNode, .int iC_saidWorth, .int iC_unit, .ref rC_kind, .ref rC_parts, .ref rC_partNodes, .ref rC_weights, .ref rC_weightSums, .ref rC_toldWorths, .ref rC_steps, .ref rC_below, .ref rC_above, .ref rC_unsureWords, .ref rC_unsureWorths])), (rC_parts, .inl (kC_parts, 18, .inl fC_parts))]) [0, 1] (by decide) rfl
    have hK9 := hK.sub (tys' := [(kC_parts, .int)]) [0] rfl
    exact W.zret (v := 0) hx hb hr rfl (fun t ht hW => ⟨⟨_, 0, rfl, ⟨Or.inl rfl, (Or.inr (⟨rfl, by first | trivial | omega⟩))⟩, Bw.to hP9 hD9 hK9 ht hW⟩, hS.F ht⟩) hS.2.2 dX1_hasRoomForPart_27
  · skip
    have gc_32 := ti_nle c_32 kc_18 rfl
    refine lv_aload_n hx hb dX1_hasRoomForPart_9 rfl (lv_at hl 0 rfl) ?_
    refine va_get (D := (dC, dI)) (ci := 1) (v := .ref rC_parts) (C := RX1) (T := TX1) (N := 19) hx hb hts inX1 hown hK hP 0 rfl rfl 9 (by decide) (hts _ wd_55) (fun _ h9 => h9) rfl dX1_hasRoomForPart_10 ?_
    refine lv_aload_n hx hb dX1_hasRoomForPart_13 rfl (lv_at hl 0 rfl) ?_
    refine va_get (D := (dC, dI)) (ci := 1) (v := .int iC_nodes) (C := RX1) (T := TX1) (N := 19) hx hb hts inX1 hown hK hP 0 rfl rfl 0 (by decide) (hts _ wd_215) (fun _ h9 => h9) rfl dX1_hasRoomForPart_14 ?_
    refine va_iald hx hb hK hP 1 0 rfl rfl (ti_in rfl (by omega) (by omega)) dX1_hasRoomForPart_17 ?_
    refine lv_topi (fun x_33 ex_33 => ?_)
    have rg_x_33 := fb_rng x_33
    have kx_33 : (fC_parts iC_nodes.toNatClampNeg).toInt = x_33.toInt := by rw [ex_33]
    have ux_33 := a_fC_parts _ (by have q := ti_cl (x := iC_nodes) rfl (by omega); omega : iC_nodes.toNatClampNeg < 18)
    rw [show fC_parts iC_nodes.toNatClampNeg = x_33 from ex_33.symm] at ux_33
    refine lv_iconst (v := 4) hx hb dX1_hasRoomForPart_18 (by decide) ?_
    refine lv_icmp_ge (tgt := 26) hx hb dX1_hasRoomForPart_19 (by decide) (fun c_34 => ?_) (fun c_34 => ?_)
    · skip
      have gc_34 := ti_le c_34 kc_4 rfl
      refine lv_iconst (v := 0) hx hb dX1_hasRoomForPart_26 (by decide) ?_
      have hP9 := hP.sub (ws' := [(oC, .inr (1, [.int iC_nodes, .int iC_words, .int iC_chances, .int iC_unsures, .int iC_slips, .int iC_throneNode, .int iC_saidWorth, .int iC_unit, .ref rC_kind, .ref rC_parts, .ref rC_partNodes, .ref rC_weights, .ref rC_weightSums, .ref rC_toldWorths, .ref rC_steps, .ref rC_below, .ref rC_above, .ref rC_unsureWords, .ref rC_unsureWorths])), (rC_parts, .inl (kC_parts, 18, .inl fC_parts))]) [0, 1] rfl
      have hD9 := hD.sub (ws' := [(oC, .inr (1, [.int iC_nodes, .int iC_words, .int iC_chances, .int iC_unsures, .int iC_slips, .int iC_throneNode, .int iC_saidWorth, .int iC_unit, .ref rC_kind, .ref rC_parts, .ref rC_partNodes, .ref rC_weights, .ref rC_weightSums, .ref rC_toldWorths, .ref rC_steps, .ref rC_below, .ref rC_above, .ref rC_unsureWords, .ref rC_unsureWorths])), (rC_parts, .inl (kC_parts, 18, .inl fC_parts))]) [0, 1] (by decide) rfl
      have hK9 := hK.sub (tys' := [(kC_parts, .int)]) [0] rfl
      exact W.zret (v := 0) hx hb hr rfl (fun t ht hW => ⟨⟨_, 0, rfl, ⟨Or.inl rfl, (Or.inr (⟨rfl, by first | trivial | omega⟩))⟩, Bw.to hP9 hD9 hK9 ht hW⟩, hS.F ht⟩) hS.2.2 dX1_hasRoomForPart_27
    · skip
      have gc_34 := ti_nle c_34 kc_4 rfl
      refine lv_iconst (v := 1) hx hb dX1_hasRoomForPart_22 (by decide) ?_
      refine lv_goto (tgt := 27) hx hb dX1_hasRoomForPart_23 (by decide) ?_
      have hP9 := hP.sub (ws' := [(oC, .inr (1, [.int iC_nodes, .int iC_words, .int iC_chances, .int iC_unsures, .int iC_slips, .int iC_throneNode, .int iC_saidWorth, .int iC_unit, .ref rC_kind, .ref rC_parts, .ref rC_partNodes, .ref rC_weights, .ref rC_weightSums, .ref rC_toldWorths, .ref rC_steps, .ref rC_below, .ref rC_above, .ref rC_unsureWords, .ref rC_unsureWorths])), (rC_parts, .inl (kC_parts, 18, .inl fC_parts))]) [0, 1] rfl
      have hD9 := hD.sub (ws' := [(oC, .inr (1, [.int iC_nodes, .int iC_words, .int iC_chances, .int iC_unsures, .int iC_slips, .int iC_throneNode, .int iC_saidWorth, .int iC_unit, .ref rC_kind, .ref rC_parts, .ref rC_partNodes, .ref rC_weights, .ref rC_weightSums, .ref rC_toldWorths, .ref rC_steps, .ref rC_below, .ref rC_above, .ref rC_unsureWords, .ref rC_unsureWorths])), (rC_parts, .inl (kC_parts, 18, .inl fC_parts))]) [0, 1] (by decide) rfl
      have hK9 := hK.sub (tys' := [(kC_parts, .int)]) [0] rfl
      exact W.zret (v := 1) hx hb hr rfl (fun t ht hW => ⟨⟨_, 0, rfl, ⟨Or.inr rfl, (Or.inl ⟨rfl, by first | trivial | omega⟩)⟩, Bw.to hP9 hD9 hK9 ht hW⟩, hS.F ht⟩) hS.2.2 dX1_hasRoomForPart_27
set_option maxHeartbeats 4000000 in
set_option maxRecDepth 100000 in
theorem tX1_beginNode (l : Launch) (dC : Nat → ClassId) (dI : Nat → Nat → Nat) (sz : Nat) (oC : Nat) (iC_nodes : Int32) (iC_words : Int32) (iC_chances : Int32) (iC_unsures : Int32) (iC_slips : Int32) (iC_throneNode : Int32) (iC_saidWorth : Int32) (iC_unit : Int32) (rC_kind : Nat) (fC_kind : Nat → Int32) (kC_kind : ClassId) (rC_parts : Nat) (fC_parts : Nat → Int32) (kC_parts : ClassId) (rC_partNodes : Nat) (rC_weights : Nat) (rC_weightSums : Nat) (fC_weightSums : Nat → Int32) (kC_weightSums : ClassId) (rC_toldWorths : Nat) (fC_toldWorths : Nat → Int32) (kC_toldWorths : ClassId) (rC_steps : Nat) (fC_steps : Nat → Int32) (kC_steps : ClassId) (rC_below : Nat) (fC_below : Nat → Int32) (kC_below : ClassId) (rC_above : Nat) (fC_above : Nat → Int32) (kC_above : ClassId) (rC_unsureWords : Nat) (rC_unsureWorths : Nat) (p0 : Int32) (b_iC_nodes : 0 ≤ iC_nodes.toInt ∧ iC_nodes.toInt ≤ 18) (b_iC_unsures : 0 ≤ iC_unsures.toInt ∧ iC_unsures.toInt ≤ 4) (a_fC_parts : ∀ j : Nat, j < 18 → 0 ≤ (fC_parts j).toInt ∧ (fC_parts j).toInt ≤ 4)  : Met l yX1_beginNode (Cond.code yX1_beginNode cX1_beginNode 2 none :: wG) ({ frames := 0, cells := 0, slots := 0, locals := 0 }) (va_Pc [.ref oC, .int p0] (Pw dC dI sz [(oC, .inr (1, [.int iC_nodes, .int iC_words, .int iC_chances, .int iC_unsures, .int iC_slips, .int iC_throneNode, .int iC_saidWorth, .int iC_unit, .ref rC_kind, .ref rC_parts, .ref rC_partNodes, .ref rC_weights, .ref rC_weightSums, .ref rC_toldWorths, .ref rC_steps, .ref rC_below, .ref rC_above, .ref rC_unsureWords, .ref rC_unsureWorths])), (rC_kind, .inl (kC_kind, 18, .inl fC_kind)), (rC_parts, .inl (kC_parts, 18, .inl fC_parts)), (rC_weightSums, .inl (kC_weightSums, 18, .inl fC_weightSums)), (rC_toldWorths, .inl (kC_toldWorths, 18, .inl fC_toldWorths)), (rC_steps, .inl (kC_steps, 18, .inl fC_steps)), (rC_below, .inl (kC_below, 18, .inl fC_below)), (rC_above, .inl (kC_above, 18, .inl fC_above))] [(kC_kind, .int), (kC_parts, .int), (kC_weightSums, .int), (kC_toldWorths, .int), (kC_steps, .int), (kC_below, .int), (kC_above, .int)])) (va_Qv (fun (_ : Nat) => True) (fun (_ : Nat) (t : State) => ∃ (nfC_kind : Nat → Int32) (nfC_parts : Nat → Int32) (nfC_weightSums : Nat → Int32) (nfC_toldWorths : Nat → Int32) (nfC_steps : Nat → Int32) (nfC_below : Nat → Int32) (nfC_above : Nat → Int32), (∀ j : Nat, j < 18 → 0 ≤ (nfC_parts j).toInt ∧ (nfC_parts j).toInt ≤ 4) ∧ Bw dC dI (va_A [(oC, .inr (1, [.int iC_nodes, .int iC_words, .int iC_chances, .int iC_unsures, .int iC_slips, .int iC_throneNode, .int iC_saidWorth, .int iC_unit, .ref rC_kind, .ref rC_parts, .ref rC_partNodes, .ref rC_weights, .ref rC_weightSums, .ref rC_toldWorths, .ref rC_steps, .ref rC_below, .ref rC_above, .ref rC_unsureWords, .ref rC_unsureWorths])), (rC_kind, .inl (kC_kind, 18, .inl fC_kind)), (rC_parts, .inl (kC_parts, 18, .inl fC_parts)), (rC_weightSums, .inl (kC_weightSums, 18, .inl fC_weightSums)), (rC_toldWorths, .inl (kC_toldWorths, 18, .inl fC_toldWorths)), (rC_steps, .inl (kC_steps, 18, .inl fC_steps)), (rC_below, .inl (kC_below, 18, .inl fC_below)), (rC_above, .inl (kC_above, 18, .inl fC_above))] sz) [(oC, .inr (1, [.int iC_nodes, .int iC_words, .int iC_chances, .int iC_unsures, .int iC_slips, .int iC_throneNode, .int iC_saidWorth, .int iC_unit, .ref rC_kind, .ref rC_parts, .ref rC_partNodes, .ref rC_weights, .ref rC_weightSums, .ref rC_toldWorths, .ref rC_steps, .ref rC_below, .ref rC_above, .ref rC_unsureWords, .ref rC_unsureWorths])), (rC_kind, .inl (kC_kind, 18, .inl nfC_kind)), (rC_parts, .inl (kC_parts, 18, .inl nfC_parts)), (rC_weightSums, .inl (kC_weightSums, 18, .inl nfC_weightSums)), (rC_toldWorths, .inl (kC_toldWorths, 18, .inl nfC_toldWorths)), (rC_steps, .inl (kC_steps, 18, .inl nfC_steps)), (rC_below, .inl (kC_below, 18, .inl nfC_below)), (rC_above, .inl (kC_above, 18, .inl nfC_above))] [(kC_kind, .int), (kC_parts, .int), (kC_weightSums, .int), (kC_toldWorths, .int), (kC_steps, .int), (kC_below, .int), (kC_above, .int)] t) (va_A [(oC, .inr (1, [.int iC_nodes, .int iC_words, .int iC_chances, .int iC_unsures, .int iC_slips, .int iC_throneNode, .int iC_saidWorth, .int iC_unit, .ref rC_kind, .ref rC_parts, .ref rC_partNodes, .ref rC_weights, .ref rC_weightSums, .ref rC_toldWorths, .ref rC_steps, .ref rC_below, .ref rC_above, .ref rC_unsureWords, .ref rC_unsureWorths])), (rC_kind, .inl (kC_kind, 18, .inl fC_kind)), (rC_parts, .inl (kC_parts, 18, .inl fC_parts)), (rC_weightSums, .inl (kC_weightSums, 18, .inl fC_weightSums)), (rC_toldWorths, .inl (kC_toldWorths, 18, .inl fC_toldWorths)), (rC_steps, .inl (kC_steps, 18, .inl fC_steps)), (rC_below, .inl (kC_below, 18, .inl fC_below)), (rC_above, .inl (kC_above, 18, .inl fC_above))] sz)) 0 0 (va_A [(oC, .inr (1, [.int iC_nodes, .int iC_words, .int iC_chances, .int iC_unsures, .int iC_slips, .int iC_throneNode, .int iC_saidWorth, .int iC_unit, .ref rC_kind, .ref rC_parts, .ref rC_partNodes, .ref rC_weights, .ref rC_weightSums, .ref rC_toldWorths, .ref rC_steps, .ref rC_below, .ref rC_above, .ref rC_unsureWords, .ref rC_unsureWorths])), (rC_kind, .inl (kC_kind, 18, .inl fC_kind)), (rC_parts, .inl (kC_parts, 18, .inl fC_parts)), (rC_weightSums, .inl (kC_weightSums, 18, .inl fC_weightSums)), (rC_toldWorths, .inl (kC_toldWorths, 18, .inl fC_toldWorths)), (rC_steps, .inl (kC_steps, 18, .inl fC_steps)), (rC_below, .inl (kC_below, 18, .inl fC_below)), (rC_above, .inl (kC_above, 18, .inl fC_above))] sz) := by
  refine Met.ofW (cc := cX1_beginNode) (maxL := 2) (ret := none) (by decide) rfl ?_
  intro p e s m args below meth c s₁ B hml hv
  obtain ⟨rfl, hsz, hP, hK, hD0, hE⟩ := hv
  have hx := B.exec
  have hb := B.bytes
  have hr := B.returns
  have hts : ∀ w ∈ wG, w.before ([.ref oC, .int p0] : List Value).toArray s = true := fun w h => atoms_spec (ws := Cond.code yX1_beginNode cX1_beginNode 2 none :: wG) B.pre w (List.mem_cons_of_mem _ h)
  have hown : s.vm.findClass RX1 = some m.cls := findClass_of_methodNamed B.named
  have hlocks := B.notSynchronized
  subst hsz
  have hD := hD0.self (sz := s.heap.size)
  generalize hAe : va_A [(oC, .inr (1, [.int iC_nodes, .int iC_words, .int iC_chances, .int iC_unsures, .int iC_slips, .int iC_throneNode, .int iC_saidWorth, .int iC_unit, .ref rC_kind, .ref rC_parts, .ref rC_partNodes, .ref rC_weights, .ref rC_weightSums, .ref rC_toldWorths, .ref rC_steps, .ref rC_below, .ref rC_above, .ref rC_unsureWords, .ref rC_unsureWorths])), (rC_kind, .inl (kC_kind, 18, .inl fC_kind)), (rC_parts, .inl (kC_parts, 18, .inl fC_parts)), (rC_weightSums, .inl (kC_weightSums, 18, .inl fC_weightSums)), (rC_toldWorths, .inl (kC_toldWorths, 18, .inl fC_toldWorths)), (rC_steps, .inl (kC_steps, 18, .inl fC_steps)), (rC_below, .inl (kC_below, 18, .inl fC_below)), (rC_above, .inl (kC_above, 18, .inl fC_above))] s.heap.size = A at hD hE ⊢
  have hA : ∀ q : Nat, s.heap.size ≤ q → A q := fun q h => by rw [← hAe]; exact Or.inr h
  have hS : va_S A s.heap s.heap [] := va_S.rf
  have hl := lv_entry ([.ref oC, .int p0]) (n := 2) (Nat.le_of_ble_eq_true rfl)
  rw [lg_entry_eq]
  generalize (lg_sl ([.ref oC, .int p0]) ++ List.replicate (2 - (lg_sl ([.ref oC, .int p0])).length) Slot.unset).toArray = ls at hl ⊢
  have hl : lv_has ls 2 [(0, .ref oC), (1, .int p0)] := hl
  have rg_p0 := fb_rng p0
  refine lv_aload_n hx hb dX1_beginNode_0 rfl (lv_at hl 0 rfl) ?_
  refine va_get (D := (dC, dI)) (ci := 1) (v := .int iC_nodes) (C := RX1) (T := TX1) (N := 19) hx hb hts inX1 hown hK hP 0 rfl rfl 0 (by decide) (hts _ wd_215) (fun _ h9 => h9) rfl dX1_beginNode_1 ?_
  have rg_iC_nodes := fb_rng iC_nodes
  refine lv_bipush (v := 18) hx hb dX1_beginNode_4 (by decide) ?_
  refine lv_icmp_ge (tgt := 92) hx hb dX1_beginNode_6 (by decide) (fun c_47 => ?_) (fun c_47 => ?_)
  · skip
    have gc_47 := ti_le c_47 kc_18 rfl
    have hP9 := hP.sub (ws' := [(oC, .inr (1, [.int iC_nodes, .int iC_words, .int iC_chances, .int iC_unsures, .int iC_slips, .int iC_throneNode, .int iC_saidWorth, .int iC_unit, .ref rC_kind, .ref rC_parts, .ref rC_partNodes, .ref rC_weights, .ref rC_weightSums, .ref rC_toldWorths, .ref rC_steps, .ref rC_below, .ref rC_above, .ref rC_unsureWords, .ref rC_unsureWorths])), (rC_kind, .inl (kC_kind, 18, .inl fC_kind)), (rC_parts, .inl (kC_parts, 18, .inl fC_parts)), (rC_weightSums, .inl (kC_weightSums, 18, .inl fC_weightSums)), (rC_toldWorths, .inl (kC_toldWorths, 18, .inl fC_toldWorths)), (rC_steps, .inl (kC_steps, 18, .inl fC_steps)), (rC_below, .inl (kC_below, 18, .inl fC_below)), (rC_above, .inl (kC_above, 18, .inl fC_above))]) [0, 1, 2, 3, 4, 5, 6, 7] rfl
    have hD9 := hD.sub (ws' := [(oC, .inr (1, [.int iC_nodes, .int iC_words, .int iC_chances, .int iC_unsures, .int iC_slips, .int iC_throneNode, .int iC_saidWorth, .int iC_unit, .ref rC_kind, .ref rC_parts, .ref rC_partNodes, .ref rC_weights, .ref rC_weightSums, .ref rC_toldWorths, .ref rC_steps, .ref rC_below, .ref rC_above, .ref rC_unsureWords, .ref rC_unsureWorths])), (rC_kind, .inl (kC_kind, 18, .inl fC_kind)), (rC_parts, .inl (kC_parts, 18, .inl fC_parts)), (rC_weightSums, .inl (kC_weightSums, 18, .inl fC_weightSums)), (rC_toldWorths, .inl (kC_toldWorths, 18, .inl fC_toldWorths)), (rC_steps, .inl (kC_steps, 18, .inl fC_steps)), (rC_below, .inl (kC_below, 18, .inl fC_below)), (rC_above, .inl (kC_above, 18, .inl fC_above))]) [0, 1, 2, 3, 4, 5, 6, 7] (by decide) rfl
    have hK9 := hK.sub (tys' := [(kC_kind, .int), (kC_parts, .int), (kC_weightSums, .int), (kC_toldWorths, .int), (kC_steps, .int), (kC_below, .int), (kC_above, .int)]) [0, 1, 2, 3, 4, 5, 6] rfl
    exact W.vret hx hb hr (fun t ht hW => ⟨⟨0, rfl, trivial, ⟨fC_kind, fC_parts, fC_weightSums, fC_toldWorths, fC_steps, fC_below, fC_above, a_fC_parts, Bw.to hP9 hD9 hK9 ht hW⟩⟩, hS.F ht⟩) hS.2.2 dX1_beginNode_92
  · skip
    have gc_47 := ti_nle c_47 kc_18 rfl
    refine lv_aload_n hx hb dX1_beginNode_9 rfl (lv_at hl 0 rfl) ?_
    refine va_get (D := (dC, dI)) (ci := 1) (v := .ref rC_kind) (C := RX1) (T := TX1) (N := 19) hx hb hts inX1 hown hK hP 0 rfl rfl 8 (by decide) (hts _ wd_54) (fun _ h9 => h9) rfl dX1_beginNode_10 ?_
    refine lv_aload_n hx hb dX1_beginNode_13 rfl (lv_at hl 0 rfl) ?_
    refine va_get (D := (dC, dI)) (ci := 1) (v := .int iC_nodes) (C := RX1) (T := TX1) (N := 19) hx hb hts inX1 hown hK hP 0 rfl rfl 0 (by decide) (hts _ wd_215) (fun _ h9 => h9) rfl dX1_beginNode_14 ?_
    refine lv_iload_n hx hb dX1_beginNode_17 rfl (lv_at hl 1 rfl) ?_
    refine vz_iast hx hb hK hP hD hS 1 0 rfl rfl (ti_in rfl (by omega) (by omega)) dX1_beginNode_18 (fun H locs f_48 hP hD hS => ?_)
    have hP : va_P (dC, dI) vwCl [(oC, .inr (1, [.int iC_nodes, .int iC_words, .int iC_chances, .int iC_unsures, .int iC_slips, .int iC_throneNode, .int iC_saidWorth, .int iC_unit, .ref rC_kind, .ref rC_parts, .ref rC_partNodes, .ref rC_weights, .ref rC_weightSums, .ref rC_toldWorths, .ref rC_steps, .ref rC_below, .ref rC_above, .ref rC_unsureWords, .ref rC_unsureWorths])), (rC_kind, .inl (kC_kind, 18, .inl f_48)), (rC_parts, .inl (kC_parts, 18, .inl fC_parts)), (rC_weightSums, .inl (kC_weightSums, 18, .inl fC_weightSums)), (rC_toldWorths, .inl (kC_toldWorths, 18, .inl fC_toldWorths)), (rC_steps, .inl (kC_steps, 18, .inl fC_steps)), (rC_below, .inl (kC_below, 18, .inl fC_below)), (rC_above, .inl (kC_above, 18, .inl fC_above))] H := hP
    have hD : va_D A [(oC, .inr (1, [.int iC_nodes, .int iC_words, .int iC_chances, .int iC_unsures, .int iC_slips, .int iC_throneNode, .int iC_saidWorth, .int iC_unit, .ref rC_kind, .ref rC_parts, .ref rC_partNodes, .ref rC_weights, .ref rC_weightSums, .ref rC_toldWorths, .ref rC_steps, .ref rC_below, .ref rC_above, .ref rC_unsureWords, .ref rC_unsureWorths])), (rC_kind, .inl (kC_kind, 18, .inl f_48)), (rC_parts, .inl (kC_parts, 18, .inl fC_parts)), (rC_weightSums, .inl (kC_weightSums, 18, .inl fC_weightSums)), (rC_toldWorths, .inl (kC_toldWorths, 18, .inl fC_toldWorths)), (rC_steps, .inl (kC_steps, 18, .inl fC_steps)), (rC_below, .inl (kC_below, 18, .inl fC_below)), (rC_above, .inl (kC_above, 18, .inl fC_above))] := hD
    refine lv_aload_n hx hb dX1_beginNode_19 rfl (lv_at hl 0 rfl) ?_
    refine va_get (D := (dC, dI)) (ci := 1) (v := .ref rC_parts) (C := RX1) (T := TX1) (N := 19) hx hb hts inX1 hown hK hP 0 rfl rfl 9 (by decide) (hts _ wd_55) (fun _ h9 => h9) rfl dX1_beginNode_20 ?_
    refine lv_aload_n hx hb dX1_beginNode_23 rfl (lv_at hl 0 rfl) ?_
    refine va_get (D := (dC, dI)) (ci := 1) (v := .int iC_nodes) (C := RX1) (T := TX1) (N := 19) hx hb hts inX1 hown hK hP 0 rfl rfl 0 (by decide) (hts _ wd_215) (fun _ h9 => h9) rfl dX1_beginNode_24 ?_
    refine lv_iconst (v := 0) hx hb dX1_beginNode_27 (by decide) ?_
    refine vi_iast (lo := 0) (hi := 4) hx hb hK hP hD hS 2 1 rfl rfl (ti_in rfl (by omega) (by omega)) a_fC_parts (by decide) dX1_beginNode_28 (fun H locs f_49 a_f_49 hP hD hS => ?_)
    have hP : va_P (dC, dI) vwCl [(oC, .inr (1, [.int iC_nodes, .int iC_words, .int iC_chances, .int iC_unsures, .int iC_slips, .int iC_throneNode, .int iC_saidWorth, .int iC_unit, .ref rC_kind, .ref rC_parts, .ref rC_partNodes, .ref rC_weights, .ref rC_weightSums, .ref rC_toldWorths, .ref rC_steps, .ref rC_below, .ref rC_above, .ref rC_unsureWords, .ref rC_unsureWorths])), (rC_kind, .inl (kC_kind, 18, .inl f_48)), (rC_parts, .inl (kC_parts, 18, .inl f_49)), (rC_weightSums, .inl (kC_weightSums, 18, .inl fC_weightSums)), (rC_toldWorths, .inl (kC_toldWorths, 18, .inl fC_toldWorths)), (rC_steps, .inl (kC_steps, 18, .inl fC_steps)), (rC_below, .inl (kC_below, 18, .inl fC_below)), (rC_above, .inl (kC_above, 18, .inl fC_above))] H := hP
    have hD : va_D A [(oC, .inr (1, [.int iC_nodes, .int iC_words, .int iC_chances, .int iC_unsures, .int iC_slips, .int iC_throneNode, .int iC_saidWorth, .int iC_unit, .ref rC_kind, .ref rC_parts, .ref rC_partNodes, .ref rC_weights, .ref rC_weightSums, .ref rC_toldWorths, .ref rC_steps, .ref rC_below, .ref rC_above, .ref rC_unsureWords, .ref rC_unsureWorths])), (rC_kind, .inl (kC_kind, 18, .inl f_48)), (rC_parts, .inl (kC_parts, 18, .inl f_49)), (rC_weightSums, .inl (kC_weightSums, 18, .inl fC_weightSums)), (rC_toldWorths, .inl (kC_toldWorths, 18, .inl fC_toldWorths)), (rC_steps, .inl (kC_steps, 18, .inl fC_steps)), (rC_below, .inl (kC_below, 18, .inl fC_below)), (rC_above, .inl (kC_above, 18, .inl fC_above))] := hD
    refine lv_aload_n hx hb dX1_beginNode_29 rfl (lv_at hl 0 rfl) ?_
    refine va_get (D := (dC, dI)) (ci := 1) (v := .ref rC_weightSums) (C := RX1) (T := TX1) (N := 19) hx hb hts inX1 hown hK hP 0 rfl rfl 12 (by decide) (hts _ wd_58) (fun _ h9 => h9) rfl dX1_beginNode_30 ?_
    refine lv_aload_n hx hb dX1_beginNode_33 rfl (lv_at hl 0 rfl) ?_
    refine va_get (D := (dC, dI)) (ci := 1) (v := .int iC_nodes) (C := RX1) (T := TX1) (N := 19) hx hb hts inX1 hown hK hP 0 rfl rfl 0 (by decide) (hts _ wd_215) (fun _ h9 => h9) rfl dX1_beginNode_34 ?_
    refine lv_iconst (v := 0) hx hb dX1_beginNode_37 (by decide) ?_
    refine vz_iast hx hb hK hP hD hS 3 2 rfl rfl (ti_in rfl (by omega) (by omega)) dX1_beginNode_38 (fun H locs f_50 hP hD hS => ?_)
    have hP : va_P (dC, dI) vwCl [(oC, .inr (1, [.int iC_nodes, .int iC_words, .int iC_chances, .int iC_unsures, .int iC_slips, .int iC_throneNode, .int iC_saidWorth, .int iC_unit, .ref rC_kind, .ref rC_parts, .ref rC_partNodes, .ref rC_weights, .ref rC_weightSums, .ref rC_toldWorths, .ref rC_steps, .ref rC_below, .ref rC_above, .ref rC_unsureWords, .ref rC_unsureWorths])), (rC_kind, .inl (kC_kind, 18, .inl f_48)), (rC_parts, .inl (kC_parts, 18, .inl f_49)), (rC_weightSums, .inl (kC_weightSums, 18, .inl f_50)), (rC_toldWorths, .inl (kC_toldWorths, 18, .inl fC_toldWorths)), (rC_steps, .inl (kC_steps, 18, .inl fC_steps)), (rC_below, .inl (kC_below, 18, .inl fC_below)), (rC_above, .inl (kC_above, 18, .inl fC_above))] H := hP
    have hD : va_D A [(oC, .inr (1, [.int iC_nodes, .int iC_words, .int iC_chances, .int iC_unsures, .int iC_slips, .int iC_throneNode, .int iC_saidWorth, .int iC_unit, .ref rC_kind, .ref rC_parts, .ref rC_partNodes, .ref rC_weights, .ref rC_weightSums, .ref rC_toldWorths, .ref rC_steps, .ref rC_below, .ref rC_above, .ref rC_unsureWords, .ref rC_unsureWorths])), (rC_kind, .inl (kC_kind, 18, .inl f_48)), (rC_parts, .inl (kC_parts, 18, .inl f_49)), (rC_weightSums, .inl (kC_weightSums, 18, .inl f_50)), (rC_toldWorths, .inl (kC_toldWorths, 18, .inl fC_toldWorths)), (rC_steps, .inl (kC_steps, 18, .inl fC_steps)), (rC_below, .inl (kC_below, 18, .inl fC_below)), (rC_above, .inl (kC_above, 18, .inl fC_above))] := hD
    refine lv_aload_n hx hb dX1_beginNode_39 rfl (lv_at hl 0 rfl) ?_
    refine va_get (D := (dC, dI)) (ci := 1) (v := .ref rC_toldWorths) (C := RX1) (T := TX1) (N := 19) hx hb hts inX1 hown hK hP 0 rfl rfl 13 (by decide) (hts _ wd_59) (fun _ h9 => h9) rfl dX1_beginNode_40 ?_
    refine lv_aload_n hx hb dX1_beginNode_43 rfl (lv_at hl 0 rfl) ?_
    refine va_get (D := (dC, dI)) (ci := 1) (v := .int iC_nodes) (C := RX1) (T := TX1) (N := 19) hx hb hts inX1 hown hK hP 0 rfl rfl 0 (by decide) (hts _ wd_215) (fun _ h9 => h9) rfl dX1_beginNode_44 ?_
    refine lv_iconst (v := 0) hx hb dX1_beginNode_47 (by decide) ?_
    refine vz_iast hx hb hK hP hD hS 4 3 rfl rfl (ti_in rfl (by omega) (by omega)) dX1_beginNode_48 (fun H locs f_51 hP hD hS => ?_)
    have hP : va_P (dC, dI) vwCl [(oC, .inr (1, [.int iC_nodes, .int iC_words, .int iC_chances, .int iC_unsures, .int iC_slips, .int iC_throneNode, .int iC_saidWorth, .int iC_unit, .ref rC_kind, .ref rC_parts, .ref rC_partNodes, .ref rC_weights, .ref rC_weightSums, .ref rC_toldWorths, .ref rC_steps, .ref rC_below, .ref rC_above, .ref rC_unsureWords, .ref rC_unsureWorths])), (rC_kind, .inl (kC_kind, 18, .inl f_48)), (rC_parts, .inl (kC_parts, 18, .inl f_49)), (rC_weightSums, .inl (kC_weightSums, 18, .inl f_50)), (rC_toldWorths, .inl (kC_toldWorths, 18, .inl f_51)), (rC_steps, .inl (kC_steps, 18, .inl fC_steps)), (rC_below, .inl (kC_below, 18, .inl fC_below)), (rC_above, .inl (kC_above, 18, .inl fC_above))] H := hP
    have hD : va_D A [(oC, .inr (1, [.int iC_nodes, .int iC_words, .int iC_chances, .int iC_unsures, .int iC_slips, .int iC_throneNode, .int iC_saidWorth, .int iC_unit, .ref rC_kind, .ref rC_parts, .ref rC_partNodes, .ref rC_weights, .ref rC_weightSums, .ref rC_toldWorths, .ref rC_steps, .ref rC_below, .ref rC_above, .ref rC_unsureWords, .ref rC_unsureWorths])), (rC_kind, .inl (kC_kind, 18, .inl f_48)), (rC_parts, .inl (kC_parts, 18, .inl f_49)), (rC_weightSums, .inl (kC_weightSums, 18, .inl f_50)), (rC_toldWorths, .inl (kC_toldWorths, 18, .inl f_51)), (rC_steps, .inl (kC_steps, 18, .inl fC_steps)), (rC_below, .inl (kC_below, 18, .inl fC_below)), (rC_above, .inl (kC_above, 18, .inl fC_above))] := hD
    refine lv_aload_n hx hb dX1_beginNode_49 rfl (lv_at hl 0 rfl) ?_
    refine va_get (D := (dC, dI)) (ci := 1) (v := .ref rC_steps) (C := RX1) (T := TX1) (N := 19) hx hb hts inX1 hown hK hP 0 rfl rfl 14 (by decide) (hts _ wd_60) (fun _ h9 => h9) rfl dX1_beginNode_50 ?_
    refine lv_aload_n hx hb dX1_beginNode_53 rfl (lv_at hl 0 rfl) ?_
    refine va_get (D := (dC, dI)) (ci := 1) (v := .int iC_nodes) (C := RX1) (T := TX1) (N := 19) hx hb hts inX1 hown hK hP 0 rfl rfl 0 (by decide) (hts _ wd_215) (fun _ h9 => h9) rfl dX1_beginNode_54 ?_
    refine lv_iconst (v := 0) hx hb dX1_beginNode_57 (by decide) ?_
    refine vz_iast hx hb hK hP hD hS 5 4 rfl rfl (ti_in rfl (by omega) (by omega)) dX1_beginNode_58 (fun H locs f_52 hP hD hS => ?_)
    have hP : va_P (dC, dI) vwCl [(oC, .inr (1, [.int iC_nodes, .int iC_words, .int iC_chances, .int iC_unsures, .int iC_slips, .int iC_throneNode, .int iC_saidWorth, .int iC_unit, .ref rC_kind, .ref rC_parts, .ref rC_partNodes, .ref rC_weights, .ref rC_weightSums, .ref rC_toldWorths, .ref rC_steps, .ref rC_below, .ref rC_above, .ref rC_unsureWords, .ref rC_unsureWorths])), (rC_kind, .inl (kC_kind, 18, .inl f_48)), (rC_parts, .inl (kC_parts, 18, .inl f_49)), (rC_weightSums, .inl (kC_weightSums, 18, .inl f_50)), (rC_toldWorths, .inl (kC_toldWorths, 18, .inl f_51)), (rC_steps, .inl (kC_steps, 18, .inl f_52)), (rC_below, .inl (kC_below, 18, .inl fC_below)), (rC_above, .inl (kC_above, 18, .inl fC_above))] H := hP
    have hD : va_D A [(oC, .inr (1, [.int iC_nodes, .int iC_words, .int iC_chances, .int iC_unsures, .int iC_slips, .int iC_throneNode, .int iC_saidWorth, .int iC_unit, .ref rC_kind, .ref rC_parts, .ref rC_partNodes, .ref rC_weights, .ref rC_weightSums, .ref rC_toldWorths, .ref rC_steps, .ref rC_below, .ref rC_above, .ref rC_unsureWords, .ref rC_unsureWorths])), (rC_kind, .inl (kC_kind, 18, .inl f_48)), (rC_parts, .inl (kC_parts, 18, .inl f_49)), (rC_weightSums, .inl (kC_weightSums, 18, .inl f_50)), (rC_toldWorths, .inl (kC_toldWorths, 18, .inl f_51)), (rC_steps, .inl (kC_steps, 18, .inl f_52)), (rC_below, .inl (kC_below, 18, .inl fC_below)), (rC_above, .inl (kC_above, 18, .inl fC_above))] := hD
    refine lv_aload_n hx hb dX1_beginNode_59 rfl (lv_at hl 0 rfl) ?_
    refine va_get (D := (dC, dI)) (ci := 1) (v := .ref rC_below) (C := RX1) (T := TX1) (N := 19) hx hb hts inX1 hown hK hP 0 rfl rfl 15 (by decide) (hts _ wd_61) (fun _ h9 => h9) rfl dX1_beginNode_60 ?_
    refine lv_aload_n hx hb dX1_beginNode_63 rfl (lv_at hl 0 rfl) ?_
    refine va_get (D := (dC, dI)) (ci := 1) (v := .int iC_nodes) (C := RX1) (T := TX1) (N := 19) hx hb hts inX1 hown hK hP 0 rfl rfl 0 (by decide) (hts _ wd_215) (fun _ h9 => h9) rfl dX1_beginNode_64 ?_
    refine lv_iload_n hx hb dX1_beginNode_67 rfl (lv_at hl 1 rfl) ?_
    refine lv_if_ne (tgt := 80) hx hb dX1_beginNode_68 (by decide) (fun c_53 => ?_) (fun c_53 => ?_)
    · skip
      have gc_53 := ti_ne c_53 rfl kc_0
      refine lv_iconst (v := 0) hx hb dX1_beginNode_80 (by decide) ?_
      refine vz_iast hx hb hK hP hD hS 6 5 rfl rfl (ti_in rfl (by omega) (by omega)) dX1_beginNode_81 (fun H locs f_54 hP hD hS => ?_)
      have hP : va_P (dC, dI) vwCl [(oC, .inr (1, [.int iC_nodes, .int iC_words, .int iC_chances, .int iC_unsures, .int iC_slips, .int iC_throneNode, .int iC_saidWorth, .int iC_unit, .ref rC_kind, .ref rC_parts, .ref rC_partNodes, .ref rC_weights, .ref rC_weightSums, .ref rC_toldWorths, .ref rC_steps, .ref rC_below, .ref rC_above, .ref rC_unsureWords, .ref rC_unsureWorths])), (rC_kind, .inl (kC_kind, 18, .inl f_48)), (rC_parts, .inl (kC_parts, 18, .inl f_49)), (rC_weightSums, .inl (kC_weightSums, 18, .inl f_50)), (rC_toldWorths, .inl (kC_toldWorths, 18, .inl f_51)), (rC_steps, .inl (kC_steps, 18, .inl f_52)), (rC_below, .inl (kC_below, 18, .inl f_54)), (rC_above, .inl (kC_above, 18, .inl fC_above))] H := hP
      have hD : va_D A [(oC, .inr (1, [.int iC_nodes, .int iC_words, .int iC_chances, .int iC_unsures, .int iC_slips, .int iC_throneNode, .int iC_saidWorth, .int iC_unit, .ref rC_kind, .ref rC_parts, .ref rC_partNodes, .ref rC_weights, .ref rC_weightSums, .ref rC_toldWorths, .ref rC_steps, .ref rC_below, .ref rC_above, .ref rC_unsureWords, .ref rC_unsureWorths])), (rC_kind, .inl (kC_kind, 18, .inl f_48)), (rC_parts, .inl (kC_parts, 18, .inl f_49)), (rC_weightSums, .inl (kC_weightSums, 18, .inl f_50)), (rC_toldWorths, .inl (kC_toldWorths, 18, .inl f_51)), (rC_steps, .inl (kC_steps, 18, .inl f_52)), (rC_below, .inl (kC_below, 18, .inl f_54)), (rC_above, .inl (kC_above, 18, .inl fC_above))] := hD
      refine lv_aload_n hx hb dX1_beginNode_82 rfl (lv_at hl 0 rfl) ?_
      refine va_get (D := (dC, dI)) (ci := 1) (v := .ref rC_above) (C := RX1) (T := TX1) (N := 19) hx hb hts inX1 hown hK hP 0 rfl rfl 16 (by decide) (hts _ wd_62) (fun _ h9 => h9) rfl dX1_beginNode_83 ?_
      refine lv_aload_n hx hb dX1_beginNode_86 rfl (lv_at hl 0 rfl) ?_
      refine va_get (D := (dC, dI)) (ci := 1) (v := .int iC_nodes) (C := RX1) (T := TX1) (N := 19) hx hb hts inX1 hown hK hP 0 rfl rfl 0 (by decide) (hts _ wd_215) (fun _ h9 => h9) rfl dX1_beginNode_87 ?_
      refine lv_iconst (v := 0) hx hb dX1_beginNode_90 (by decide) ?_
      refine vz_iast hx hb hK hP hD hS 7 6 rfl rfl (ti_in rfl (by omega) (by omega)) dX1_beginNode_91 (fun H locs f_55 hP hD hS => ?_)
      have hP : va_P (dC, dI) vwCl [(oC, .inr (1, [.int iC_nodes, .int iC_words, .int iC_chances, .int iC_unsures, .int iC_slips, .int iC_throneNode, .int iC_saidWorth, .int iC_unit, .ref rC_kind, .ref rC_parts, .ref rC_partNodes, .ref rC_weights, .ref rC_weightSums, .ref rC_toldWorths, .ref rC_steps, .ref rC_below, .ref rC_above, .ref rC_unsureWords, .ref rC_unsureWorths])), (rC_kind, .inl (kC_kind, 18, .inl f_48)), (rC_parts, .inl (kC_parts, 18, .inl f_49)), (rC_weightSums, .inl (kC_weightSums, 18, .inl f_50)), (rC_toldWorths, .inl (kC_toldWorths, 18, .inl f_51)), (rC_steps, .inl (kC_steps, 18, .inl f_52)), (rC_below, .inl (kC_below, 18, .inl f_54)), (rC_above, .inl (kC_above, 18, .inl f_55))] H := hP
      have hD : va_D A [(oC, .inr (1, [.int iC_nodes, .int iC_words, .int iC_chances, .int iC_unsures, .int iC_slips, .int iC_throneNode, .int iC_saidWorth, .int iC_unit, .ref rC_kind, .ref rC_parts, .ref rC_partNodes, .ref rC_weights, .ref rC_weightSums, .ref rC_toldWorths, .ref rC_steps, .ref rC_below, .ref rC_above, .ref rC_unsureWords, .ref rC_unsureWorths])), (rC_kind, .inl (kC_kind, 18, .inl f_48)), (rC_parts, .inl (kC_parts, 18, .inl f_49)), (rC_weightSums, .inl (kC_weightSums, 18, .inl f_50)), (rC_toldWorths, .inl (kC_toldWorths, 18, .inl f_51)), (rC_steps, .inl (kC_steps, 18, .inl f_52)), (rC_below, .inl (kC_below, 18, .inl f_54)), (rC_above, .inl (kC_above, 18, .inl f_55))] := hD
      have hP9 := hP.sub (ws' := [(oC, .inr (1, [.int iC_nodes, .int iC_words, .int iC_chances, .int iC_unsures, .int iC_slips, .int iC_throneNode, .int iC_saidWorth, .int iC_unit, .ref rC_kind, .ref rC_parts, .ref rC_partNodes, .ref rC_weights, .ref rC_weightSums, .ref rC_toldWorths, .ref rC_steps, .ref rC_below, .ref rC_above, .ref rC_unsureWords, .ref rC_unsureWorths])), (rC_kind, .inl (kC_kind, 18, .inl f_48)), (rC_parts, .inl (kC_parts, 18, .inl f_49)), (rC_weightSums, .inl (kC_weightSums, 18, .inl f_50)), (rC_toldWorths, .inl (kC_toldWorths, 18, .inl f_51)), (rC_steps, .inl (kC_steps, 18, .inl f_52)), (rC_below, .inl (kC_below, 18, .inl f_54)), (rC_above, .inl (kC_above, 18, .inl f_55))]) [0, 1, 2, 3, 4, 5, 6, 7] rfl
      have hD9 := hD.sub (ws' := [(oC, .inr (1, [.int iC_nodes, .int iC_words, .int iC_chances, .int iC_unsures, .int iC_slips, .int iC_throneNode, .int iC_saidWorth, .int iC_unit, .ref rC_kind, .ref rC_parts, .ref rC_partNodes, .ref rC_weights, .ref rC_weightSums, .ref rC_toldWorths, .ref rC_steps, .ref rC_below, .ref rC_above, .ref rC_unsureWords, .ref rC_unsureWorths])), (rC_kind, .inl (kC_kind, 18, .inl f_48)), (rC_parts, .inl (kC_parts, 18, .inl f_49)), (rC_weightSums, .inl (kC_weightSums, 18, .inl f_50)), (rC_toldWorths, .inl (kC_toldWorths, 18, .inl f_51)), (rC_steps, .inl (kC_steps, 18, .inl f_52)), (rC_below, .inl (kC_below, 18, .inl f_54)), (rC_above, .inl (kC_above, 18, .inl f_55))]) [0, 1, 2, 3, 4, 5, 6, 7] (by decide) rfl
      have hK9 := hK.sub (tys' := [(kC_kind, .int), (kC_parts, .int), (kC_weightSums, .int), (kC_toldWorths, .int), (kC_steps, .int), (kC_below, .int), (kC_above, .int)]) [0, 1, 2, 3, 4, 5, 6] rfl
      exact W.vret hx hb hr (fun t ht hW => ⟨⟨0, rfl, trivial, ⟨f_48, f_49, f_50, f_51, f_52, f_54, f_55, a_f_49, Bw.to hP9 hD9 hK9 ht hW⟩⟩, hS.F ht⟩) hS.2.2 dX1_beginNode_92
    · skip
      have gc_53 := ti_eq c_53 rfl kc_0
      refine lv_iconst (v := 1) hx hb dX1_beginNode_71 (by decide) ?_
      refine lv_aload_n hx hb dX1_beginNode_72 rfl (lv_at hl 0 rfl) ?_
      refine va_get (D := (dC, dI)) (ci := 1) (v := .int iC_nodes) (C := RX1) (T := TX1) (N := 19) hx hb hts inX1 hown hK hP 0 rfl rfl 0 (by decide) (hts _ wd_215) (fun _ h9 => h9) rfl dX1_beginNode_73 ?_
      refine lv_ishl hx hb dX1_beginNode_76 ?_
      refine lv_topi (fun x_56 ex_56 => ?_)
      have rg_x_56 := fb_rng x_56
      refine lv_goto (tgt := 81) hx hb dX1_beginNode_77 (by decide) ?_
      refine vz_iast hx hb hK hP hD hS 6 5 rfl rfl (ti_in rfl (by omega) (by omega)) dX1_beginNode_81 (fun H locs f_57 hP hD hS => ?_)
      have hP : va_P (dC, dI) vwCl [(oC, .inr (1, [.int iC_nodes, .int iC_words, .int iC_chances, .int iC_unsures, .int iC_slips, .int iC_throneNode, .int iC_saidWorth, .int iC_unit, .ref rC_kind, .ref rC_parts, .ref rC_partNodes, .ref rC_weights, .ref rC_weightSums, .ref rC_toldWorths, .ref rC_steps, .ref rC_below, .ref rC_above, .ref rC_unsureWords, .ref rC_unsureWorths])), (rC_kind, .inl (kC_kind, 18, .inl f_48)), (rC_parts, .inl (kC_parts, 18, .inl f_49)), (rC_weightSums, .inl (kC_weightSums, 18, .inl f_50)), (rC_toldWorths, .inl (kC_toldWorths, 18, .inl f_51)), (rC_steps, .inl (kC_steps, 18, .inl f_52)), (rC_below, .inl (kC_below, 18, .inl f_57)), (rC_above, .inl (kC_above, 18, .inl fC_above))] H := hP
      have hD : va_D A [(oC, .inr (1, [.int iC_nodes, .int iC_words, .int iC_chances, .int iC_unsures, .int iC_slips, .int iC_throneNode, .int iC_saidWorth, .int iC_unit, .ref rC_kind, .ref rC_parts, .ref rC_partNodes, .ref rC_weights, .ref rC_weightSums, .ref rC_toldWorths, .ref rC_steps, .ref rC_below, .ref rC_above, .ref rC_unsureWords, .ref rC_unsureWorths])), (rC_kind, .inl (kC_kind, 18, .inl f_48)), (rC_parts, .inl (kC_parts, 18, .inl f_49)), (rC_weightSums, .inl (kC_weightSums, 18, .inl f_50)), (rC_toldWorths, .inl (kC_toldWorths, 18, .inl f_51)), (rC_steps, .inl (kC_steps, 18, .inl f_52)), (rC_below, .inl (kC_below, 18, .inl f_57)), (rC_above, .inl (kC_above, 18, .inl fC_above))] := hD
      refine lv_aload_n hx hb dX1_beginNode_82 rfl (lv_at hl 0 rfl) ?_
      refine va_get (D := (dC, dI)) (ci := 1) (v := .ref rC_above) (C := RX1) (T := TX1) (N := 19) hx hb hts inX1 hown hK hP 0 rfl rfl 16 (by decide) (hts _ wd_62) (fun _ h9 => h9) rfl dX1_beginNode_83 ?_
      refine lv_aload_n hx hb dX1_beginNode_86 rfl (lv_at hl 0 rfl) ?_
      refine va_get (D := (dC, dI)) (ci := 1) (v := .int iC_nodes) (C := RX1) (T := TX1) (N := 19) hx hb hts inX1 hown hK hP 0 rfl rfl 0 (by decide) (hts _ wd_215) (fun _ h9 => h9) rfl dX1_beginNode_87 ?_
      refine lv_iconst (v := 0) hx hb dX1_beginNode_90 (by decide) ?_
      refine vz_iast hx hb hK hP hD hS 7 6 rfl rfl (ti_in rfl (by omega) (by omega)) dX1_beginNode_91 (fun H locs f_58 hP hD hS => ?_)
      have hP : va_P (dC, dI) vwCl [(oC, .inr (1, [.int iC_nodes, .int iC_words, .int iC_chances, .int iC_unsures, .int iC_slips, .int iC_throneNode, .int iC_saidWorth, .int iC_unit, .ref rC_kind, .ref rC_parts, .ref rC_partNodes, .ref rC_weights, .ref rC_weightSums, .ref rC_toldWorths, .ref rC_steps, .ref rC_below, .ref rC_above, .ref rC_unsureWords, .ref rC_unsureWorths])), (rC_kind, .inl (kC_kind, 18, .inl f_48)), (rC_parts, .inl (kC_parts, 18, .inl f_49)), (rC_weightSums, .inl (kC_weightSums, 18, .inl f_50)), (rC_toldWorths, .inl (kC_toldWorths, 18, .inl f_51)), (rC_steps, .inl (kC_steps, 18, .inl f_52)), (rC_below, .inl (kC_below, 18, .inl f_57)), (rC_above, .inl (kC_above, 18, .inl f_58))] H := hP
      have hD : va_D A [(oC, .inr (1, [.int iC_nodes, .int iC_words, .int iC_chances, .int iC_unsures, .int iC_slips, .int iC_throneNode, .int iC_saidWorth, .int iC_unit, .ref rC_kind, .ref rC_parts, .ref rC_partNodes, .ref rC_weights, .ref rC_weightSums, .ref rC_toldWorths, .ref rC_steps, .ref rC_below, .ref rC_above, .ref rC_unsureWords, .ref rC_unsureWorths])), (rC_kind, .inl (kC_kind, 18, .inl f_48)), (rC_parts, .inl (kC_parts, 18, .inl f_49)), (rC_weightSums, .inl (kC_weightSums, 18, .inl f_50)), (rC_toldWorths, .inl (kC_toldWorths, 18, .inl f_51)), (rC_steps, .inl (kC_steps, 18, .inl f_52)), (rC_below, .inl (kC_below, 18, .inl f_57)), (rC_above, .inl (kC_above, 18, .inl f_58))] := hD
      have hP9 := hP.sub (ws' := [(oC, .inr (1, [.int iC_nodes, .int iC_words, .int iC_chances, .int iC_unsures, .int iC_slips, .int iC_throneNode, .int iC_saidWorth, .int iC_unit, .ref rC_kind, .ref rC_parts, .ref rC_partNodes, .ref rC_weights, .ref rC_weightSums, .ref rC_toldWorths, .ref rC_steps, .ref rC_below, .ref rC_above, .ref rC_unsureWords, .ref rC_unsureWorths])), (rC_kind, .inl (kC_kind, 18, .inl f_48)), (rC_parts, .inl (kC_parts, 18, .inl f_49)), (rC_weightSums, .inl (kC_weightSums, 18, .inl f_50)), (rC_toldWorths, .inl (kC_toldWorths, 18, .inl f_51)), (rC_steps, .inl (kC_steps, 18, .inl f_52)), (rC_below, .inl (kC_below, 18, .inl f_57)), (rC_above, .inl (kC_above, 18, .inl f_58))]) [0, 1, 2, 3, 4, 5, 6, 7] rfl
      have hD9 := hD.sub (ws' := [(oC, .inr (1, [.int iC_nodes, .int iC_words, .int iC_chances, .int iC_unsures, .int iC_slips, .int iC_throneNode, .int iC_saidWorth, .int iC_unit, .ref rC_kind, .ref rC_parts, .ref rC_partNodes, .ref rC_weights, .ref rC_weightSums, .ref rC_toldWorths, .ref rC_steps, .ref rC_below, .ref rC_above, .ref rC_unsureWords, .ref rC_unsureWorths])), (rC_kind, .inl (kC_kind, 18, .inl f_48)), (rC_parts, .inl (kC_parts, 18, .inl f_49)), (rC_weightSums, .inl (kC_weightSums, 18, .inl f_50)), (rC_toldWorths, .inl (kC_toldWorths, 18, .inl f_51)), (rC_steps, .inl (kC_steps, 18, .inl f_52)), (rC_below, .inl (kC_below, 18, .inl f_57)), (rC_above, .inl (kC_above, 18, .inl f_58))]) [0, 1, 2, 3, 4, 5, 6, 7] (by decide) rfl
      have hK9 := hK.sub (tys' := [(kC_kind, .int), (kC_parts, .int), (kC_weightSums, .int), (kC_toldWorths, .int), (kC_steps, .int), (kC_below, .int), (kC_above, .int)]) [0, 1, 2, 3, 4, 5, 6] rfl
      exact W.vret hx hb hr (fun t ht hW => ⟨⟨0, rfl, trivial, ⟨f_48, f_49, f_50, f_51, f_52, f_57, f_58, a_f_49, Bw.to hP9 hD9 hK9 ht hW⟩⟩, hS.F ht⟩) hS.2.2 dX1_beginNode_92
set_option maxHeartbeats 4000000 in
set_option maxRecDepth 100000 in
theorem tX1_endNode (l : Launch) (dC : Nat → ClassId) (dI : Nat → Nat → Nat) (sz : Nat) (oC : Nat) (iC_nodes : Int32) (iC_words : Int32) (iC_chances : Int32) (iC_unsures : Int32) (iC_slips : Int32) (iC_throneNode : Int32) (iC_saidWorth : Int32) (iC_unit : Int32) (rC_kind : Nat) (fC_kind : Nat → Int32) (kC_kind : ClassId) (rC_parts : Nat) (rC_partNodes : Nat) (rC_weights : Nat) (rC_weightSums : Nat) (fC_weightSums : Nat → Int32) (kC_weightSums : ClassId) (rC_toldWorths : Nat) (fC_toldWorths : Nat → Int32) (kC_toldWorths : ClassId) (rC_steps : Nat) (rC_below : Nat) (rC_above : Nat) (rC_unsureWords : Nat) (rC_unsureWorths : Nat) (p0 : Int32) (b_iC_nodes : 0 ≤ iC_nodes.toInt ∧ iC_nodes.toInt ≤ 18) (b_iC_unsures : 0 ≤ iC_unsures.toInt ∧ iC_unsures.toInt ≤ 4)  : Met l yX1_endNode (Cond.code yX1_endNode cX1_endNode 2 none :: wG) ({ frames := 0, cells := 0, slots := 0, locals := 0 }) (va_Pc [.ref oC, .int p0] (Pw dC dI sz [(oC, .inr (1, [.int iC_nodes, .int iC_words, .int iC_chances, .int iC_unsures, .int iC_slips, .int iC_throneNode, .int iC_saidWorth, .int iC_unit, .ref rC_kind, .ref rC_parts, .ref rC_partNodes, .ref rC_weights, .ref rC_weightSums, .ref rC_toldWorths, .ref rC_steps, .ref rC_below, .ref rC_above, .ref rC_unsureWords, .ref rC_unsureWorths])), (rC_kind, .inl (kC_kind, 18, .inl fC_kind)), (rC_weightSums, .inl (kC_weightSums, 18, .inl fC_weightSums)), (rC_toldWorths, .inl (kC_toldWorths, 18, .inl fC_toldWorths))] [(kC_kind, .int), (kC_weightSums, .int), (kC_toldWorths, .int)])) (va_Qv (fun (_ : Nat) => True) (fun (_ : Nat) (t : State) => ∃ (niC_nodes : Int32) (niC_words : Int32) (niC_chances : Int32) (niC_unit : Int32) (nfC_toldWorths : Nat → Int32), (0 ≤ niC_nodes.toInt ∧ niC_nodes.toInt ≤ 18) ∧ Bw dC dI (va_A [(oC, .inr (1, [.int iC_nodes, .int iC_words, .int iC_chances, .int iC_unsures, .int iC_slips, .int iC_throneNode, .int iC_saidWorth, .int iC_unit, .ref rC_kind, .ref rC_parts, .ref rC_partNodes, .ref rC_weights, .ref rC_weightSums, .ref rC_toldWorths, .ref rC_steps, .ref rC_below, .ref rC_above, .ref rC_unsureWords, .ref rC_unsureWorths])), (rC_kind, .inl (kC_kind, 18, .inl fC_kind)), (rC_weightSums, .inl (kC_weightSums, 18, .inl fC_weightSums)), (rC_toldWorths, .inl (kC_toldWorths, 18, .inl fC_toldWorths))] sz) [(oC, .inr (1, [.int niC_nodes, .int niC_words, .int niC_chances, .int iC_unsures, .int iC_slips, .int iC_throneNode, .int iC_saidWorth, .int niC_unit, .ref rC_kind, .ref rC_parts, .ref rC_partNodes, .ref rC_weights, .ref rC_weightSums, .ref rC_toldWorths, .ref rC_steps, .ref rC_below, .ref rC_above, .ref rC_unsureWords, .ref rC_unsureWorths])), (rC_kind, .inl (kC_kind, 18, .inl fC_kind)), (rC_weightSums, .inl (kC_weightSums, 18, .inl fC_weightSums)), (rC_toldWorths, .inl (kC_toldWorths, 18, .inl nfC_toldWorths))] [(kC_kind, .int), (kC_weightSums, .int), (kC_toldWorths, .int)] t) (va_A [(oC, .inr (1, [.int iC_nodes, .int iC_words, .int iC_chances, .int iC_unsures, .int iC_slips, .int iC_throneNode, .int iC_saidWorth, .int iC_unit, .ref rC_kind, .ref rC_parts, .ref rC_partNodes, .ref rC_weights, .ref rC_weightSums, .ref rC_toldWorths, .ref rC_steps, .ref rC_below, .ref rC_above, .ref rC_unsureWords, .ref rC_unsureWorths])), (rC_kind, .inl (kC_kind, 18, .inl fC_kind)), (rC_weightSums, .inl (kC_weightSums, 18, .inl fC_weightSums)), (rC_toldWorths, .inl (kC_toldWorths, 18, .inl fC_toldWorths))] sz)) 0 0 (va_A [(oC, .inr (1, [.int iC_nodes, .int iC_words, .int iC_chances, .int iC_unsures, .int iC_slips, .int iC_throneNode, .int iC_saidWorth, .int iC_unit, .ref rC_kind, .ref rC_parts, .ref rC_partNodes, .ref rC_weights, .ref rC_weightSums, .ref rC_toldWorths, .ref rC_steps, .ref rC_below, .ref rC_above, .ref rC_unsureWords, .ref rC_unsureWorths])), (rC_kind, .inl (kC_kind, 18, .inl fC_kind)), (rC_weightSums, .inl (kC_weightSums, 18, .inl fC_weightSums)), (rC_toldWorths, .inl (kC_toldWorths, 18, .inl fC_toldWorths))] sz) := by
  refine Met.ofW (cc := cX1_endNode) (maxL := 2) (ret := none) (by decide) rfl ?_
  intro p e s m args below meth c s₁ B hml hv
  obtain ⟨rfl, hsz, hP, hK, hD0, hE⟩ := hv
  have hx := B.exec
  have hb := B.bytes
  have hr := B.returns
  have hts : ∀ w ∈ wG, w.before ([.ref oC, .int p0] : List Value).toArray s = true := fun w h => atoms_spec (ws := Cond.code yX1_endNode cX1_endNode 2 none :: wG) B.pre w (List.mem_cons_of_mem _ h)
  have hown : s.vm.findClass RX1 = some m.cls := findClass_of_methodNamed B.named
  have hlocks := B.notSynchronized
  subst hsz
  have hD := hD0.self (sz := s.heap.size)
  generalize hAe : va_A [(oC, .inr (1, [.int iC_nodes, .int iC_words, .int iC_chances, .int iC_unsures, .int iC_slips, .int iC_throneNode, .int iC_saidWorth, .int iC_unit, .ref rC_kind, .ref rC_parts, .ref rC_partNodes, .ref rC_weights, .ref rC_weightSums, .ref rC_toldWorths, .ref rC_steps, .ref rC_below, .ref rC_above, .ref rC_unsureWords, .ref rC_unsureWorths])), (rC_kind, .inl (kC_kind, 18, .inl fC_kind)), (rC_weightSums, .inl (kC_weightSums, 18, .inl fC_weightSums)), (rC_toldWorths, .inl (kC_toldWorths, 18, .inl fC_toldWorths))] s.heap.size = A at hD hE ⊢
  have hA : ∀ q : Nat, s.heap.size ≤ q → A q := fun q h => by rw [← hAe]; exact Or.inr h
  have hS : va_S A s.heap s.heap [] := va_S.rf
  have hl := lv_entry ([.ref oC, .int p0]) (n := 2) (Nat.le_of_ble_eq_true rfl)
  rw [lg_entry_eq]
  generalize (lg_sl ([.ref oC, .int p0]) ++ List.replicate (2 - (lg_sl ([.ref oC, .int p0])).length) Slot.unset).toArray = ls at hl ⊢
  have hl : lv_has ls 2 [(0, .ref oC), (1, .int p0)] := hl
  have rg_p0 := fb_rng p0
  refine lv_aload_n hx hb dX1_endNode_0 rfl (lv_at hl 0 rfl) ?_
  refine va_get (D := (dC, dI)) (ci := 1) (v := .int iC_nodes) (C := RX1) (T := TX1) (N := 19) hx hb hts inX1 hown hK hP 0 rfl rfl 0 (by decide) (hts _ wd_215) (fun _ h9 => h9) rfl dX1_endNode_1 ?_
  have rg_iC_nodes := fb_rng iC_nodes
  refine lv_bipush (v := 18) hx hb dX1_endNode_4 (by decide) ?_
  refine lv_icmp_ge (tgt := 92) hx hb dX1_endNode_6 (by decide) (fun c_74 => ?_) (fun c_74 => ?_)
  · skip
    have gc_74 := ti_le c_74 kc_18 rfl
    have hP9 := hP.sub (ws' := [(oC, .inr (1, [.int iC_nodes, .int iC_words, .int iC_chances, .int iC_unsures, .int iC_slips, .int iC_throneNode, .int iC_saidWorth, .int iC_unit, .ref rC_kind, .ref rC_parts, .ref rC_partNodes, .ref rC_weights, .ref rC_weightSums, .ref rC_toldWorths, .ref rC_steps, .ref rC_below, .ref rC_above, .ref rC_unsureWords, .ref rC_unsureWorths])), (rC_kind, .inl (kC_kind, 18, .inl fC_kind)), (rC_weightSums, .inl (kC_weightSums, 18, .inl fC_weightSums)), (rC_toldWorths, .inl (kC_toldWorths, 18, .inl fC_toldWorths))]) [0, 1, 2, 3] rfl
    have hD9 := hD.sub (ws' := [(oC, .inr (1, [.int iC_nodes, .int iC_words, .int iC_chances, .int iC_unsures, .int iC_slips, .int iC_throneNode, .int iC_saidWorth, .int iC_unit, .ref rC_kind, .ref rC_parts, .ref rC_partNodes, .ref rC_weights, .ref rC_weightSums, .ref rC_toldWorths, .ref rC_steps, .ref rC_below, .ref rC_above, .ref rC_unsureWords, .ref rC_unsureWorths])), (rC_kind, .inl (kC_kind, 18, .inl fC_kind)), (rC_weightSums, .inl (kC_weightSums, 18, .inl fC_weightSums)), (rC_toldWorths, .inl (kC_toldWorths, 18, .inl fC_toldWorths))]) [0, 1, 2, 3] (by decide) rfl
    have hK9 := hK.sub (tys' := [(kC_kind, .int), (kC_weightSums, .int), (kC_toldWorths, .int)]) [0, 1, 2] rfl
    exact W.vret hx hb hr (fun t ht hW => ⟨⟨0, rfl, trivial, ⟨iC_nodes, iC_words, iC_chances, iC_unit, fC_toldWorths, (by omega), Bw.to hP9 hD9 hK9 ht hW⟩⟩, hS.F ht⟩) hS.2.2 dX1_endNode_92
  · skip
    have gc_74 := ti_nle c_74 kc_18 rfl
    refine lv_aload_n hx hb dX1_endNode_9 rfl (lv_at hl 0 rfl) ?_
    refine va_get (D := (dC, dI)) (ci := 1) (v := .ref rC_toldWorths) (C := RX1) (T := TX1) (N := 19) hx hb hts inX1 hown hK hP 0 rfl rfl 13 (by decide) (hts _ wd_59) (fun _ h9 => h9) rfl dX1_endNode_10 ?_
    refine lv_aload_n hx hb dX1_endNode_13 rfl (lv_at hl 0 rfl) ?_
    refine va_get (D := (dC, dI)) (ci := 1) (v := .int iC_nodes) (C := RX1) (T := TX1) (N := 19) hx hb hts inX1 hown hK hP 0 rfl rfl 0 (by decide) (hts _ wd_215) (fun _ h9 => h9) rfl dX1_endNode_14 ?_
    refine lv_iload_n hx hb dX1_endNode_17 rfl (lv_at hl 1 rfl) ?_
    refine vz_iast hx hb hK hP hD hS 3 2 rfl rfl (ti_in rfl (by omega) (by omega)) dX1_endNode_18 (fun H locs f_75 hP hD hS => ?_)
    have hP : va_P (dC, dI) vwCl [(oC, .inr (1, [.int iC_nodes, .int iC_words, .int iC_chances, .int iC_unsures, .int iC_slips, .int iC_throneNode, .int iC_saidWorth, .int iC_unit, .ref rC_kind, .ref rC_parts, .ref rC_partNodes, .ref rC_weights, .ref rC_weightSums, .ref rC_toldWorths, .ref rC_steps, .ref rC_below, .ref rC_above, .ref rC_unsureWords, .ref rC_unsureWorths])), (rC_kind, .inl (kC_kind, 18, .inl fC_kind)), (rC_weightSums, .inl (kC_weightSums, 18, .inl fC_weightSums)), (rC_toldWorths, .inl (kC_toldWorths, 18, .inl f_75))] H := hP
    have hD : va_D A [(oC, .inr (1, [.int iC_nodes, .int iC_words, .int iC_chances, .int iC_unsures, .int iC_slips, .int iC_throneNode, .int iC_saidWorth, .int iC_unit, .ref rC_kind, .ref rC_parts, .ref rC_partNodes, .ref rC_weights, .ref rC_weightSums, .ref rC_toldWorths, .ref rC_steps, .ref rC_below, .ref rC_above, .ref rC_unsureWords, .ref rC_unsureWorths])), (rC_kind, .inl (kC_kind, 18, .inl fC_kind)), (rC_weightSums, .inl (kC_weightSums, 18, .inl fC_weightSums)), (rC_toldWorths, .inl (kC_toldWorths, 18, .inl f_75))] := hD
    refine lv_aload_n hx hb dX1_endNode_19 rfl (lv_at hl 0 rfl) ?_
    refine va_get (D := (dC, dI)) (ci := 1) (v := .ref rC_kind) (C := RX1) (T := TX1) (N := 19) hx hb hts inX1 hown hK hP 0 rfl rfl 8 (by decide) (hts _ wd_54) (fun _ h9 => h9) rfl dX1_endNode_20 ?_
    refine lv_aload_n hx hb dX1_endNode_23 rfl (lv_at hl 0 rfl) ?_
    refine va_get (D := (dC, dI)) (ci := 1) (v := .int iC_nodes) (C := RX1) (T := TX1) (N := 19) hx hb hts inX1 hown hK hP 0 rfl rfl 0 (by decide) (hts _ wd_215) (fun _ h9 => h9) rfl dX1_endNode_24 ?_
    refine va_iald hx hb hK hP 1 0 rfl rfl (ti_in rfl (by omega) (by omega)) dX1_endNode_27 ?_
    refine lv_topi (fun x_76 ex_76 => ?_)
    have rg_x_76 := fb_rng x_76
    have kx_76 : (fC_kind iC_nodes.toNatClampNeg).toInt = x_76.toInt := by rw [ex_76]
    refine lv_if_ne (tgt := 41) hx hb dX1_endNode_28 (by decide) (fun c_77 => ?_) (fun c_77 => ?_)
    · skip
      have gc_77 := ti_ne c_77 rfl kc_0
      refine lv_aload_n hx hb dX1_endNode_41 rfl (lv_at hl 0 rfl) ?_
      refine va_get (D := (dC, dI)) (ci := 1) (v := .ref rC_kind) (C := RX1) (T := TX1) (N := 19) hx hb hts inX1 hown hK hP 0 rfl rfl 8 (by decide) (hts _ wd_54) (fun _ h9 => h9) rfl dX1_endNode_42 ?_
      refine lv_aload_n hx hb dX1_endNode_45 rfl (lv_at hl 0 rfl) ?_
      refine va_get (D := (dC, dI)) (ci := 1) (v := .int iC_nodes) (C := RX1) (T := TX1) (N := 19) hx hb hts inX1 hown hK hP 0 rfl rfl 0 (by decide) (hts _ wd_215) (fun _ h9 => h9) rfl dX1_endNode_46 ?_
      refine va_iald hx hb hK hP 1 0 rfl rfl (ti_in rfl (by omega) (by omega)) dX1_endNode_49 ?_
      refine lv_topi (fun x_78 ex_78 => ?_)
      have rg_x_78 := fb_rng x_78
      have kx_78 : (fC_kind iC_nodes.toNatClampNeg).toInt = x_78.toInt := by rw [ex_78]
      refine lv_iconst (v := 3) hx hb dX1_endNode_50 (by decide) ?_
      refine lv_icmp_ne (tgt := 82) hx hb dX1_endNode_51 (by decide) (fun c_79 => ?_) (fun c_79 => ?_)
      · skip
        have gc_79 := ti_ne c_79 rfl kc_3
        refine lv_aload_n hx hb dX1_endNode_82 rfl (lv_at hl 0 rfl) ?_
        refine lv_dup hx hb dX1_endNode_83 rfl ?_
        refine va_get (D := (dC, dI)) (ci := 1) (v := .int iC_nodes) (C := RX1) (T := TX1) (N := 19) hx hb hts inX1 hown hK hP 0 rfl rfl 0 (by decide) (hts _ wd_215) (fun _ h9 => h9) rfl dX1_endNode_84 ?_
        refine lv_iconst (v := 1) hx hb dX1_endNode_87 (by decide) ?_
        refine lv_iadd hx hb dX1_endNode_88 ?_
        refine lv_topi (fun x_80 ex_80 => ?_)
        have vx_80 : x_80.toInt = iC_nodes.toInt + 1 := by have q := ti_add ex_80 rfl kc_1 (by omega) (by omega); omega
        refine va_put (D := (dC, dI)) (ci := 1) (v := .int x_80) (ty := .int) (C := RX1) (T := TX1) (N := 19) hx hb hts inX1 tyX1 tyX1_ok nmX1 hown hK hP hD hS 0 rfl rfl 0 (by decide) (hts _ wd_215) (fun _ h9 => h9) rfl (by decide +kernel) rfl rfl (Nat.le_of_ble_eq_true rfl) dX1_endNode_89 (fun H locs hP hD hS => ?_)
        have hP : va_P (dC, dI) vwCl [(oC, .inr (1, [.int x_80, .int iC_words, .int iC_chances, .int iC_unsures, .int iC_slips, .int iC_throneNode, .int iC_saidWorth, .int iC_unit, .ref rC_kind, .ref rC_parts, .ref rC_partNodes, .ref rC_weights, .ref rC_weightSums, .ref rC_toldWorths, .ref rC_steps, .ref rC_below, .ref rC_above, .ref rC_unsureWords, .ref rC_unsureWorths])), (rC_kind, .inl (kC_kind, 18, .inl fC_kind)), (rC_weightSums, .inl (kC_weightSums, 18, .inl fC_weightSums)), (rC_toldWorths, .inl (kC_toldWorths, 18, .inl f_75))] H := hP
        have hD : va_D A [(oC, .inr (1, [.int x_80, .int iC_words, .int iC_chances, .int iC_unsures, .int iC_slips, .int iC_throneNode, .int iC_saidWorth, .int iC_unit, .ref rC_kind, .ref rC_parts, .ref rC_partNodes, .ref rC_weights, .ref rC_weightSums, .ref rC_toldWorths, .ref rC_steps, .ref rC_below, .ref rC_above, .ref rC_unsureWords, .ref rC_unsureWorths])), (rC_kind, .inl (kC_kind, 18, .inl fC_kind)), (rC_weightSums, .inl (kC_weightSums, 18, .inl fC_weightSums)), (rC_toldWorths, .inl (kC_toldWorths, 18, .inl f_75))] := hD
        have hP9 := hP.sub (ws' := [(oC, .inr (1, [.int x_80, .int iC_words, .int iC_chances, .int iC_unsures, .int iC_slips, .int iC_throneNode, .int iC_saidWorth, .int iC_unit, .ref rC_kind, .ref rC_parts, .ref rC_partNodes, .ref rC_weights, .ref rC_weightSums, .ref rC_toldWorths, .ref rC_steps, .ref rC_below, .ref rC_above, .ref rC_unsureWords, .ref rC_unsureWorths])), (rC_kind, .inl (kC_kind, 18, .inl fC_kind)), (rC_weightSums, .inl (kC_weightSums, 18, .inl fC_weightSums)), (rC_toldWorths, .inl (kC_toldWorths, 18, .inl f_75))]) [0, 1, 2, 3] rfl
        have hD9 := hD.sub (ws' := [(oC, .inr (1, [.int x_80, .int iC_words, .int iC_chances, .int iC_unsures, .int iC_slips, .int iC_throneNode, .int iC_saidWorth, .int iC_unit, .ref rC_kind, .ref rC_parts, .ref rC_partNodes, .ref rC_weights, .ref rC_weightSums, .ref rC_toldWorths, .ref rC_steps, .ref rC_below, .ref rC_above, .ref rC_unsureWords, .ref rC_unsureWorths])), (rC_kind, .inl (kC_kind, 18, .inl fC_kind)), (rC_weightSums, .inl (kC_weightSums, 18, .inl fC_weightSums)), (rC_toldWorths, .inl (kC_toldWorths, 18, .inl f_75))]) [0, 1, 2, 3] (by decide) rfl
        have hK9 := hK.sub (tys' := [(kC_kind, .int), (kC_weightSums, .int), (kC_toldWorths, .int)]) [0, 1, 2] rfl
        exact W.vret hx hb hr (fun t ht hW => ⟨⟨0, rfl, trivial, ⟨x_80, iC_words, iC_chances, iC_unit, f_75, (by have q := vx_80; omega), Bw.to hP9 hD9 hK9 ht hW⟩⟩, hS.F ht⟩) hS.2.2 dX1_endNode_92
      · skip
        have gc_79 := ti_eq c_79 rfl kc_3
        refine lv_aload_n hx hb dX1_endNode_54 rfl (lv_at hl 0 rfl) ?_
        refine lv_dup hx hb dX1_endNode_55 rfl ?_
        refine va_get (D := (dC, dI)) (ci := 1) (v := .int iC_chances) (C := RX1) (T := TX1) (N := 19) hx hb hts inX1 hown hK hP 0 rfl rfl 2 (by decide) (hts _ wd_217) (fun _ h9 => h9) rfl dX1_endNode_56 ?_
        have rg_iC_chances := fb_rng iC_chances
        refine lv_iconst (v := 1) hx hb dX1_endNode_59 (by decide) ?_
        refine lv_iadd hx hb dX1_endNode_60 ?_
        refine lv_topi (fun x_81 ex_81 => ?_)
        have rg_x_81 := fb_rng x_81
        refine va_put (D := (dC, dI)) (ci := 1) (v := .int x_81) (ty := .int) (C := RX1) (T := TX1) (N := 19) hx hb hts inX1 tyX1 tyX1_ok nmX1 hown hK hP hD hS 0 rfl rfl 2 (by decide) (hts _ wd_217) (fun _ h9 => h9) rfl (by decide +kernel) rfl rfl (Nat.le_of_ble_eq_true rfl) dX1_endNode_61 (fun H locs hP hD hS => ?_)
        have hP : va_P (dC, dI) vwCl [(oC, .inr (1, [.int iC_nodes, .int iC_words, .int x_81, .int iC_unsures, .int iC_slips, .int iC_throneNode, .int iC_saidWorth, .int iC_unit, .ref rC_kind, .ref rC_parts, .ref rC_partNodes, .ref rC_weights, .ref rC_weightSums, .ref rC_toldWorths, .ref rC_steps, .ref rC_below, .ref rC_above, .ref rC_unsureWords, .ref rC_unsureWorths])), (rC_kind, .inl (kC_kind, 18, .inl fC_kind)), (rC_weightSums, .inl (kC_weightSums, 18, .inl fC_weightSums)), (rC_toldWorths, .inl (kC_toldWorths, 18, .inl f_75))] H := hP
        have hD : va_D A [(oC, .inr (1, [.int iC_nodes, .int iC_words, .int x_81, .int iC_unsures, .int iC_slips, .int iC_throneNode, .int iC_saidWorth, .int iC_unit, .ref rC_kind, .ref rC_parts, .ref rC_partNodes, .ref rC_weights, .ref rC_weightSums, .ref rC_toldWorths, .ref rC_steps, .ref rC_below, .ref rC_above, .ref rC_unsureWords, .ref rC_unsureWorths])), (rC_kind, .inl (kC_kind, 18, .inl fC_kind)), (rC_weightSums, .inl (kC_weightSums, 18, .inl fC_weightSums)), (rC_toldWorths, .inl (kC_toldWorths, 18, .inl f_75))] := hD
        refine lv_aload_n hx hb dX1_endNode_64 rfl (lv_at hl 0 rfl) ?_
        refine lv_dup hx hb dX1_endNode_65 rfl ?_
        refine va_get (D := (dC, dI)) (ci := 1) (v := .int iC_unit) (C := RX1) (T := TX1) (N := 19) hx hb hts inX1 hown hK hP 0 rfl rfl 7 (by decide) (hts _ wd_67) (fun _ h9 => h9) rfl dX1_endNode_66 ?_
        have rg_iC_unit := fb_rng iC_unit
        refine lv_aload_n hx hb dX1_endNode_69 rfl (lv_at hl 0 rfl) ?_
        refine va_get (D := (dC, dI)) (ci := 1) (v := .ref rC_weightSums) (C := RX1) (T := TX1) (N := 19) hx hb hts inX1 hown hK hP 0 rfl rfl 12 (by decide) (hts _ wd_58) (fun _ h9 => h9) rfl dX1_endNode_70 ?_
        refine lv_aload_n hx hb dX1_endNode_73 rfl (lv_at hl 0 rfl) ?_
        refine va_get (D := (dC, dI)) (ci := 1) (v := .int iC_nodes) (C := RX1) (T := TX1) (N := 19) hx hb hts inX1 hown hK hP 0 rfl rfl 0 (by decide) (hts _ wd_215) (fun _ h9 => h9) rfl dX1_endNode_74 ?_
        refine va_iald hx hb hK hP 2 1 rfl rfl (ti_in rfl (by omega) (by omega)) dX1_endNode_77 ?_
        refine lv_topi (fun x_82 ex_82 => ?_)
        have rg_x_82 := fb_rng x_82
        have kx_82 : (fC_weightSums iC_nodes.toNatClampNeg).toInt = x_82.toInt := by rw [ex_82]
        refine lv_imul hx hb dX1_endNode_78 ?_
        refine lv_topi (fun x_83 ex_83 => ?_)
        have rg_x_83 := fb_rng x_83
        refine va_put (D := (dC, dI)) (ci := 1) (v := .int x_83) (ty := .int) (C := RX1) (T := TX1) (N := 19) hx hb hts inX1 tyX1 tyX1_ok nmX1 hown hK hP hD hS 0 rfl rfl 7 (by decide) (hts _ wd_67) (fun _ h9 => h9) rfl (by decide +kernel) rfl rfl (Nat.le_of_ble_eq_true rfl) dX1_endNode_79 (fun H locs hP hD hS => ?_)
        have hP : va_P (dC, dI) vwCl [(oC, .inr (1, [.int iC_nodes, .int iC_words, .int x_81, .int iC_unsures, .int iC_slips, .int iC_throneNode, .int iC_saidWorth, .int x_83, .ref rC_kind, .ref rC_parts, .ref rC_partNodes, .ref rC_weights, .ref rC_weightSums, .ref rC_toldWorths, .ref rC_steps, .ref rC_below, .ref rC_above, .ref rC_unsureWords, .ref rC_unsureWorths])), (rC_kind, .inl (kC_kind, 18, .inl fC_kind)), (rC_weightSums, .inl (kC_weightSums, 18, .inl fC_weightSums)), (rC_toldWorths, .inl (kC_toldWorths, 18, .inl f_75))] H := hP
        have hD : va_D A [(oC, .inr (1, [.int iC_nodes, .int iC_words, .int x_81, .int iC_unsures, .int iC_slips, .int iC_throneNode, .int iC_saidWorth, .int x_83, .ref rC_kind, .ref rC_parts, .ref rC_partNodes, .ref rC_weights, .ref rC_weightSums, .ref rC_toldWorths, .ref rC_steps, .ref rC_below, .ref rC_above, .ref rC_unsureWords, .ref rC_unsureWorths])), (rC_kind, .inl (kC_kind, 18, .inl fC_kind)), (rC_weightSums, .inl (kC_weightSums, 18, .inl fC_weightSums)), (rC_toldWorths, .inl (kC_toldWorths, 18, .inl f_75))] := hD
        refine lv_aload_n hx hb dX1_endNode_82 rfl (lv_at hl 0 rfl) ?_
        refine lv_dup hx hb dX1_endNode_83 rfl ?_
        refine va_get (D := (dC, dI)) (ci := 1) (v := .int iC_nodes) (C := RX1) (T := TX1) (N := 19) hx hb hts inX1 hown hK hP 0 rfl rfl 0 (by decide) (hts _ wd_215) (fun _ h9 => h9) rfl dX1_endNode_84 ?_
        refine lv_iconst (v := 1) hx hb dX1_endNode_87 (by decide) ?_
        refine lv_iadd hx hb dX1_endNode_88 ?_
        refine lv_topi (fun x_84 ex_84 => ?_)
        have vx_84 : x_84.toInt = iC_nodes.toInt + 1 := by have q := ti_add ex_84 rfl kc_1 (by omega) (by omega); omega
        refine va_put (D := (dC, dI)) (ci := 1) (v := .int x_84) (ty := .int) (C := RX1) (T := TX1) (N := 19) hx hb hts inX1 tyX1 tyX1_ok nmX1 hown hK hP hD hS 0 rfl rfl 0 (by decide) (hts _ wd_215) (fun _ h9 => h9) rfl (by decide +kernel) rfl rfl (Nat.le_of_ble_eq_true rfl) dX1_endNode_89 (fun H locs hP hD hS => ?_)
        have hP : va_P (dC, dI) vwCl [(oC, .inr (1, [.int x_84, .int iC_words, .int x_81, .int iC_unsures, .int iC_slips, .int iC_throneNode, .int iC_saidWorth, .int x_83, .ref rC_kind, .ref rC_parts, .ref rC_partNodes, .ref rC_weights, .ref rC_weightSums, .ref rC_toldWorths, .ref rC_steps, .ref rC_below, .ref rC_above, .ref rC_unsureWords, .ref rC_unsureWorths])), (rC_kind, .inl (kC_kind, 18, .inl fC_kind)), (rC_weightSums, .inl (kC_weightSums, 18, .inl fC_weightSums)), (rC_toldWorths, .inl (kC_toldWorths, 18, .inl f_75))] H := hP
        have hD : va_D A [(oC, .inr (1, [.int x_84, .int iC_words, .int x_81, .int iC_unsures, .int iC_slips, .int iC_throneNode, .int iC_saidWorth, .int x_83, .ref rC_kind, .ref rC_parts, .ref rC_partNodes, .ref rC_weights, .ref rC_weightSums, .ref rC_toldWorths, .ref rC_steps, .ref rC_below, .ref rC_above, .ref rC_unsureWords, .ref rC_unsureWorths])), (rC_kind, .inl (kC_kind, 18, .inl fC_kind)), (rC_weightSums, .inl (kC_weightSums, 18, .inl fC_weightSums)), (rC_toldWorths, .inl (kC_toldWorths, 18, .inl f_75))] := hD
        have hP9 := hP.sub (ws' := [(oC, .inr (1, [.int x_84, .int iC_words, .int x_81, .int iC_unsures, .int iC_slips, .int iC_throneNode, .int iC_saidWorth, .int x_83, .ref rC_kind, .ref rC_parts, .ref rC_partNodes, .ref rC_weights, .ref rC_weightSums, .ref rC_toldWorths, .ref rC_steps, .ref rC_below, .ref rC_above, .ref rC_unsureWords, .ref rC_unsureWorths])), (rC_kind, .inl (kC_kind, 18, .inl fC_kind)), (rC_weightSums, .inl (kC_weightSums, 18, .inl fC_weightSums)), (rC_toldWorths, .inl (kC_toldWorths, 18, .inl f_75))]) [0, 1, 2, 3] rfl
        have hD9 := hD.sub (ws' := [(oC, .inr (1, [.int x_84, .int iC_words, .int x_81, .int iC_unsures, .int iC_slips, .int iC_throneNode, .int iC_saidWorth, .int x_83, .ref rC_kind, .ref rC_parts, .ref rC_partNodes, .ref rC_weights, .ref rC_weightSums, .ref rC_toldWorths, .ref rC_steps, .ref rC_below, .ref rC_above, .ref rC_unsureWords, .ref rC_unsureWorths])), (rC_kind, .inl (kC_kind, 18, .inl fC_kind)), (rC_weightSums, .inl (kC_weightSums, 18, .inl fC_weightSums)), (rC_toldWorths, .inl (kC_toldWorths, 18, .inl f_75))]) [0, 1, 2, 3] (by decide) rfl
        have hK9 := hK.sub (tys' := [(kC_kind, .int), (kC_weightSums, .int), (kC_toldWorths, .int)]) [0, 1, 2] rfl
        exact W.vret hx hb hr (fun t ht hW => ⟨⟨0, rfl, trivial, ⟨x_84, iC_words, x_81, x_83, f_75, (by have q := vx_84; omega), Bw.to hP9 hD9 hK9 ht hW⟩⟩, hS.F ht⟩) hS.2.2 dX1_endNode_92
    · skip
      have gc_77 := ti_eq c_77 rfl kc_0
      refine lv_aload_n hx hb dX1_endNode_31 rfl (lv_at hl 0 rfl) ?_
      refine lv_dup hx hb dX1_endNode_32 rfl ?_
      refine va_get (D := (dC, dI)) (ci := 1) (v := .int iC_words) (C := RX1) (T := TX1) (N := 19) hx hb hts inX1 hown hK hP 0 rfl rfl 1 (by decide) (hts _ wd_216) (fun _ h9 => h9) rfl dX1_endNode_33 ?_
      have rg_iC_words := fb_rng iC_words
      refine lv_iconst (v := 1) hx hb dX1_endNode_36 (by decide) ?_
      refine lv_iadd hx hb dX1_endNode_37 ?_
      refine lv_topi (fun x_85 ex_85 => ?_)
      have rg_x_85 := fb_rng x_85
      refine va_put (D := (dC, dI)) (ci := 1) (v := .int x_85) (ty := .int) (C := RX1) (T := TX1) (N := 19) hx hb hts inX1 tyX1 tyX1_ok nmX1 hown hK hP hD hS 0 rfl rfl 1 (by decide) (hts _ wd_216) (fun _ h9 => h9) rfl (by decide +kernel) rfl rfl (Nat.le_of_ble_eq_true rfl) dX1_endNode_38 (fun H locs hP hD hS => ?_)
      have hP : va_P (dC, dI) vwCl [(oC, .inr (1, [.int iC_nodes, .int x_85, .int iC_chances, .int iC_unsures, .int iC_slips, .int iC_throneNode, .int iC_saidWorth, .int iC_unit, .ref rC_kind, .ref rC_parts, .ref rC_partNodes, .ref rC_weights, .ref rC_weightSums, .ref rC_toldWorths, .ref rC_steps, .ref rC_below, .ref rC_above, .ref rC_unsureWords, .ref rC_unsureWorths])), (rC_kind, .inl (kC_kind, 18, .inl fC_kind)), (rC_weightSums, .inl (kC_weightSums, 18, .inl fC_weightSums)), (rC_toldWorths, .inl (kC_toldWorths, 18, .inl f_75))] H := hP
      have hD : va_D A [(oC, .inr (1, [.int iC_nodes, .int x_85, .int iC_chances, .int iC_unsures, .int iC_slips, .int iC_throneNode, .int iC_saidWorth, .int iC_unit, .ref rC_kind, .ref rC_parts, .ref rC_partNodes, .ref rC_weights, .ref rC_weightSums, .ref rC_toldWorths, .ref rC_steps, .ref rC_below, .ref rC_above, .ref rC_unsureWords, .ref rC_unsureWorths])), (rC_kind, .inl (kC_kind, 18, .inl fC_kind)), (rC_weightSums, .inl (kC_weightSums, 18, .inl fC_weightSums)), (rC_toldWorths, .inl (kC_toldWorths, 18, .inl f_75))] := hD
      refine lv_aload_n hx hb dX1_endNode_41 rfl (lv_at hl 0 rfl) ?_
      refine va_get (D := (dC, dI)) (ci := 1) (v := .ref rC_kind) (C := RX1) (T := TX1) (N := 19) hx hb hts inX1 hown hK hP 0 rfl rfl 8 (by decide) (hts _ wd_54) (fun _ h9 => h9) rfl dX1_endNode_42 ?_
      refine lv_aload_n hx hb dX1_endNode_45 rfl (lv_at hl 0 rfl) ?_
      refine va_get (D := (dC, dI)) (ci := 1) (v := .int iC_nodes) (C := RX1) (T := TX1) (N := 19) hx hb hts inX1 hown hK hP 0 rfl rfl 0 (by decide) (hts _ wd_215) (fun _ h9 => h9) rfl dX1_endNode_46 ?_
      refine va_iald hx hb hK hP 1 0 rfl rfl (ti_in rfl (by omega) (by omega)) dX1_endNode_49 ?_
      refine lv_topi (fun x_86 ex_86 => ?_)
      have rg_x_86 := fb_rng x_86
      have kx_86 : (fC_kind iC_nodes.toNatClampNeg).toInt = x_86.toInt := by rw [ex_86]
      refine lv_iconst (v := 3) hx hb dX1_endNode_50 (by decide) ?_
      refine lv_icmp_ne (tgt := 82) hx hb dX1_endNode_51 (by decide) (fun c_87 => ?_) (fun c_87 => ?_)
      · skip
        have gc_87 := ti_ne c_87 rfl kc_3
        refine lv_aload_n hx hb dX1_endNode_82 rfl (lv_at hl 0 rfl) ?_
        refine lv_dup hx hb dX1_endNode_83 rfl ?_
        refine va_get (D := (dC, dI)) (ci := 1) (v := .int iC_nodes) (C := RX1) (T := TX1) (N := 19) hx hb hts inX1 hown hK hP 0 rfl rfl 0 (by decide) (hts _ wd_215) (fun _ h9 => h9) rfl dX1_endNode_84 ?_
        refine lv_iconst (v := 1) hx hb dX1_endNode_87 (by decide) ?_
        refine lv_iadd hx hb dX1_endNode_88 ?_
        refine lv_topi (fun x_88 ex_88 => ?_)
        have vx_88 : x_88.toInt = iC_nodes.toInt + 1 := by have q := ti_add ex_88 rfl kc_1 (by omega) (by omega); omega
        refine va_put (D := (dC, dI)) (ci := 1) (v := .int x_88) (ty := .int) (C := RX1) (T := TX1) (N := 19) hx hb hts inX1 tyX1 tyX1_ok nmX1 hown hK hP hD hS 0 rfl rfl 0 (by decide) (hts _ wd_215) (fun _ h9 => h9) rfl (by decide +kernel) rfl rfl (Nat.le_of_ble_eq_true rfl) dX1_endNode_89 (fun H locs hP hD hS => ?_)
        have hP : va_P (dC, dI) vwCl [(oC, .inr (1, [.int x_88, .int x_85, .int iC_chances, .int iC_unsures, .int iC_slips, .int iC_throneNode, .int iC_saidWorth, .int iC_unit, .ref rC_kind, .ref rC_parts, .ref rC_partNodes, .ref rC_weights, .ref rC_weightSums, .ref rC_toldWorths, .ref rC_steps, .ref rC_below, .ref rC_above, .ref rC_unsureWords, .ref rC_unsureWorths])), (rC_kind, .inl (kC_kind, 18, .inl fC_kind)), (rC_weightSums, .inl (kC_weightSums, 18, .inl fC_weightSums)), (rC_toldWorths, .inl (kC_toldWorths, 18, .inl f_75))] H := hP
        have hD : va_D A [(oC, .inr (1, [.int x_88, .int x_85, .int iC_chances, .int iC_unsures, .int iC_slips, .int iC_throneNode, .int iC_saidWorth, .int iC_unit, .ref rC_kind, .ref rC_parts, .ref rC_partNodes, .ref rC_weights, .ref rC_weightSums, .ref rC_toldWorths, .ref rC_steps, .ref rC_below, .ref rC_above, .ref rC_unsureWords, .ref rC_unsureWorths])), (rC_kind, .inl (kC_kind, 18, .inl fC_kind)), (rC_weightSums, .inl (kC_weightSums, 18, .inl fC_weightSums)), (rC_toldWorths, .inl (kC_toldWorths, 18, .inl f_75))] := hD
        have hP9 := hP.sub (ws' := [(oC, .inr (1, [.int x_88, .int x_85, .int iC_chances, .int iC_unsures, .int iC_slips, .int iC_throneNode, .int iC_saidWorth, .int iC_unit, .ref rC_kind, .ref rC_parts, .ref rC_partNodes, .ref rC_weights, .ref rC_weightSums, .ref rC_toldWorths, .ref rC_steps, .ref rC_below, .ref rC_above, .ref rC_unsureWords, .ref rC_unsureWorths])), (rC_kind, .inl (kC_kind, 18, .inl fC_kind)), (rC_weightSums, .inl (kC_weightSums, 18, .inl fC_weightSums)), (rC_toldWorths, .inl (kC_toldWorths, 18, .inl f_75))]) [0, 1, 2, 3] rfl
        have hD9 := hD.sub (ws' := [(oC, .inr (1, [.int x_88, .int x_85, .int iC_chances, .int iC_unsures, .int iC_slips, .int iC_throneNode, .int iC_saidWorth, .int iC_unit, .ref rC_kind, .ref rC_parts, .ref rC_partNodes, .ref rC_weights, .ref rC_weightSums, .ref rC_toldWorths, .ref rC_steps, .ref rC_below, .ref rC_above, .ref rC_unsureWords, .ref rC_unsureWorths])), (rC_kind, .inl (kC_kind, 18, .inl fC_kind)), (rC_weightSums, .inl (kC_weightSums, 18, .inl fC_weightSums)), (rC_toldWorths, .inl (kC_toldWorths, 18, .inl f_75))]) [0, 1, 2, 3] (by decide) rfl
        have hK9 := hK.sub (tys' := [(kC_kind, .int), (kC_weightSums, .int), (kC_toldWorths, .int)]) [0, 1, 2] rfl
        exact W.vret hx hb hr (fun t ht hW => ⟨⟨0, rfl, trivial, ⟨x_88, x_85, iC_chances, iC_unit, f_75, (by have q := vx_88; omega), Bw.to hP9 hD9 hK9 ht hW⟩⟩, hS.F ht⟩) hS.2.2 dX1_endNode_92
      · skip
        have gc_87 := ti_eq c_87 rfl kc_3
        exfalso; omega
set_option maxHeartbeats 4000000 in
set_option maxRecDepth 100000 in
theorem tX1_addUnsure (l : Launch) (dC : Nat → ClassId) (dI : Nat → Nat → Nat) (sz : Nat) (oC : Nat) (iC_nodes : Int32) (iC_words : Int32) (iC_chances : Int32) (iC_unsures : Int32) (iC_slips : Int32) (iC_throneNode : Int32) (iC_saidWorth : Int32) (iC_unit : Int32) (rC_kind : Nat) (rC_parts : Nat) (rC_partNodes : Nat) (rC_weights : Nat) (rC_weightSums : Nat) (rC_toldWorths : Nat) (rC_steps : Nat) (rC_below : Nat) (rC_above : Nat) (rC_unsureWords : Nat) (fC_unsureWords : Nat → Int32) (kC_unsureWords : ClassId) (rC_unsureWorths : Nat) (fC_unsureWorths : Nat → Int32) (kC_unsureWorths : ClassId) (p0 : Int32) (p1 : Int32) (b_iC_nodes : 0 ≤ iC_nodes.toInt ∧ iC_nodes.toInt ≤ 18) (b_iC_unsures : 0 ≤ iC_unsures.toInt ∧ iC_unsures.toInt ≤ 4) (a_fC_unsureWords : ∀ j : Nat, j < 4 → 0 ≤ (fC_unsureWords j).toInt ∧ (fC_unsureWords j).toInt ≤ 17) (hp0 : 0 ≤ p0.toInt ∧ p0.toInt ≤ 17) : Met l yX1_addUnsure (Cond.code yX1_addUnsure cX1_addUnsure 3 none :: wG) ({ frames := 0, cells := 0, slots := 0, locals := 0 }) (va_Pc [.ref oC, .int p0, .int p1] (Pw dC dI sz [(oC, .inr (1, [.int iC_nodes, .int iC_words, .int iC_chances, .int iC_unsures, .int iC_slips, .int iC_throneNode, .int iC_saidWorth, .int iC_unit, .ref rC_kind, .ref rC_parts, .ref rC_partNodes, .ref rC_weights, .ref rC_weightSums, .ref rC_toldWorths, .ref rC_steps, .ref rC_below, .ref rC_above, .ref rC_unsureWords, .ref rC_unsureWorths])), (rC_unsureWords, .inl (kC_unsureWords, 4, .inl fC_unsureWords)), (rC_unsureWorths, .inl (kC_unsureWorths, 4, .inl fC_unsureWorths))] [(kC_unsureWords, .int), (kC_unsureWorths, .int)])) (va_Qv (fun (_ : Nat) => True) (fun (_ : Nat) (t : State) => ∃ (niC_unsures : Int32) (nfC_unsureWords : Nat → Int32) (nfC_unsureWorths : Nat → Int32), (0 ≤ niC_unsures.toInt ∧ niC_unsures.toInt ≤ 4) ∧ (∀ j : Nat, j < 4 → 0 ≤ (nfC_unsureWords j).toInt ∧ (nfC_unsureWords j).toInt ≤ 17) ∧ Bw dC dI (va_A [(oC, .inr (1, [.int iC_nodes, .int iC_words, .int iC_chances, .int iC_unsures, .int iC_slips, .int iC_throneNode, .int iC_saidWorth, .int iC_unit, .ref rC_kind, .ref rC_parts, .ref rC_partNodes, .ref rC_weights, .ref rC_weightSums, .ref rC_toldWorths, .ref rC_steps, .ref rC_below, .ref rC_above, .ref rC_unsureWords, .ref rC_unsureWorths])), (rC_unsureWords, .inl (kC_unsureWords, 4, .inl fC_unsureWords)), (rC_unsureWorths, .inl (kC_unsureWorths, 4, .inl fC_unsureWorths))] sz) [(oC, .inr (1, [.int iC_nodes, .int iC_words, .int iC_chances, .int niC_unsures, .int iC_slips, .int iC_throneNode, .int iC_saidWorth, .int iC_unit, .ref rC_kind, .ref rC_parts, .ref rC_partNodes, .ref rC_weights, .ref rC_weightSums, .ref rC_toldWorths, .ref rC_steps, .ref rC_below, .ref rC_above, .ref rC_unsureWords, .ref rC_unsureWorths])), (rC_unsureWords, .inl (kC_unsureWords, 4, .inl nfC_unsureWords)), (rC_unsureWorths, .inl (kC_unsureWorths, 4, .inl nfC_unsureWorths))] [(kC_unsureWords, .int), (kC_unsureWorths, .int)] t) (va_A [(oC, .inr (1, [.int iC_nodes, .int iC_words, .int iC_chances, .int iC_unsures, .int iC_slips, .int iC_throneNode, .int iC_saidWorth, .int iC_unit, .ref rC_kind, .ref rC_parts, .ref rC_partNodes, .ref rC_weights, .ref rC_weightSums, .ref rC_toldWorths, .ref rC_steps, .ref rC_below, .ref rC_above, .ref rC_unsureWords, .ref rC_unsureWorths])), (rC_unsureWords, .inl (kC_unsureWords, 4, .inl fC_unsureWords)), (rC_unsureWorths, .inl (kC_unsureWorths, 4, .inl fC_unsureWorths))] sz)) 0 0 (va_A [(oC, .inr (1, [.int iC_nodes, .int iC_words, .int iC_chances, .int iC_unsures, .int iC_slips, .int iC_throneNode, .int iC_saidWorth, .int iC_unit, .ref rC_kind, .ref rC_parts, .ref rC_partNodes, .ref rC_weights, .ref rC_weightSums, .ref rC_toldWorths, .ref rC_steps, .ref rC_below, .ref rC_above, .ref rC_unsureWords, .ref rC_unsureWorths])), (rC_unsureWords, .inl (kC_unsureWords, 4, .inl fC_unsureWords)), (rC_unsureWorths, .inl (kC_unsureWorths, 4, .inl fC_unsureWorths))] sz) := by
  refine Met.ofW (cc := cX1_addUnsure) (maxL := 3) (ret := none) (by decide) rfl ?_
  intro p e s m args below meth c s₁ B hml hv
  obtain ⟨rfl, hsz, hP, hK, hD0, hE⟩ := hv
  have hx := B.exec
  have hb := B.bytes
  have hr := B.returns
  have hts : ∀ w ∈ wG, w.before ([.ref oC, .int p0, .int p1] : List Value).toArray s = true := fun w h => atoms_spec (ws := Cond.code yX1_addUnsure cX1_addUnsure 3 none :: wG) B.pre w (List.mem_cons_of_mem _ h)
  have hown : s.vm.findClass RX1 = some m.cls := findClass_of_methodNamed B.named
  have hlocks := B.notSynchronized
  subst hsz
  have hD := hD0.self (sz := s.heap.size)
  generalize hAe : va_A [(oC, .inr (1, [.int iC_nodes, .int iC_words, .int iC_chances, .int iC_unsures, .int iC_slips, .int iC_throneNode, .int iC_saidWorth, .int iC_unit, .ref rC_kind, .ref rC_parts, .ref rC_partNodes, .ref rC_weights, .ref rC_weightSums, .ref rC_toldWorths, .ref rC_steps, .ref rC_below, .ref rC_above, .ref rC_unsureWords, .ref rC_unsureWorths])), (rC_unsureWords, .inl (kC_unsureWords, 4, .inl fC_unsureWords)), (rC_unsureWorths, .inl (kC_unsureWorths, 4, .inl fC_unsureWorths))] s.heap.size = A at hD hE ⊢
  have hA : ∀ q : Nat, s.heap.size ≤ q → A q := fun q h => by rw [← hAe]; exact Or.inr h
  have hS : va_S A s.heap s.heap [] := va_S.rf
  have hl := lv_entry ([.ref oC, .int p0, .int p1]) (n := 3) (Nat.le_of_ble_eq_true rfl)
  rw [lg_entry_eq]
  generalize (lg_sl ([.ref oC, .int p0, .int p1]) ++ List.replicate (3 - (lg_sl ([.ref oC, .int p0, .int p1])).length) Slot.unset).toArray = ls at hl ⊢
  have hl : lv_has ls 3 [(0, .ref oC), (1, .int p0), (2, .int p1)] := hl
  have rg_p0 := fb_rng p0
  have rg_p1 := fb_rng p1
  refine lv_aload_n hx hb dX1_addUnsure_0 rfl (lv_at hl 0 rfl) ?_
  refine va_get (D := (dC, dI)) (ci := 1) (v := .int iC_unsures) (C := RX1) (T := TX1) (N := 19) hx hb hts inX1 hown hK hP 0 rfl rfl 3 (by decide) (hts _ wd_218) (fun _ h9 => h9) rfl dX1_addUnsure_1 ?_
  have rg_iC_unsures := fb_rng iC_unsures
  refine lv_iconst (v := 4) hx hb dX1_addUnsure_4 (by decide) ?_
  refine lv_icmp_ge (tgt := 38) hx hb dX1_addUnsure_5 (by decide) (fun c_93 => ?_) (fun c_93 => ?_)
  · skip
    have gc_93 := ti_le c_93 kc_4 rfl
    have hP9 := hP.sub (ws' := [(oC, .inr (1, [.int iC_nodes, .int iC_words, .int iC_chances, .int iC_unsures, .int iC_slips, .int iC_throneNode, .int iC_saidWorth, .int iC_unit, .ref rC_kind, .ref rC_parts, .ref rC_partNodes, .ref rC_weights, .ref rC_weightSums, .ref rC_toldWorths, .ref rC_steps, .ref rC_below, .ref rC_above, .ref rC_unsureWords, .ref rC_unsureWorths])), (rC_unsureWords, .inl (kC_unsureWords, 4, .inl fC_unsureWords)), (rC_unsureWorths, .inl (kC_unsureWorths, 4, .inl fC_unsureWorths))]) [0, 1, 2] rfl
    have hD9 := hD.sub (ws' := [(oC, .inr (1, [.int iC_nodes, .int iC_words, .int iC_chances, .int iC_unsures, .int iC_slips, .int iC_throneNode, .int iC_saidWorth, .int iC_unit, .ref rC_kind, .ref rC_parts, .ref rC_partNodes, .ref rC_weights, .ref rC_weightSums, .ref rC_toldWorths, .ref rC_steps, .ref rC_below, .ref rC_above, .ref rC_unsureWords, .ref rC_unsureWorths])), (rC_unsureWords, .inl (kC_unsureWords, 4, .inl fC_unsureWords)), (rC_unsureWorths, .inl (kC_unsureWorths, 4, .inl fC_unsureWorths))]) [0, 1, 2] (by decide) rfl
    have hK9 := hK.sub (tys' := [(kC_unsureWords, .int), (kC_unsureWorths, .int)]) [0, 1] rfl
    exact W.vret hx hb hr (fun t ht hW => ⟨⟨0, rfl, trivial, ⟨iC_unsures, fC_unsureWords, fC_unsureWorths, (by omega), a_fC_unsureWords, Bw.to hP9 hD9 hK9 ht hW⟩⟩, hS.F ht⟩) hS.2.2 dX1_addUnsure_38
  · skip
    have gc_93 := ti_nle c_93 kc_4 rfl
    refine lv_aload_n hx hb dX1_addUnsure_8 rfl (lv_at hl 0 rfl) ?_
    refine va_get (D := (dC, dI)) (ci := 1) (v := .ref rC_unsureWords) (C := RX1) (T := TX1) (N := 19) hx hb hts inX1 hown hK hP 0 rfl rfl 17 (by decide) (hts _ wd_63) (fun _ h9 => h9) rfl dX1_addUnsure_9 ?_
    refine lv_aload_n hx hb dX1_addUnsure_12 rfl (lv_at hl 0 rfl) ?_
    refine va_get (D := (dC, dI)) (ci := 1) (v := .int iC_unsures) (C := RX1) (T := TX1) (N := 19) hx hb hts inX1 hown hK hP 0 rfl rfl 3 (by decide) (hts _ wd_218) (fun _ h9 => h9) rfl dX1_addUnsure_13 ?_
    refine lv_iload_n hx hb dX1_addUnsure_16 rfl (lv_at hl 1 rfl) ?_
    refine vi_iast (lo := 0) (hi := 17) hx hb hK hP hD hS 1 0 rfl rfl (ti_in rfl (by omega) (by omega)) a_fC_unsureWords (by omega) dX1_addUnsure_17 (fun H locs f_94 a_f_94 hP hD hS => ?_)
    have hP : va_P (dC, dI) vwCl [(oC, .inr (1, [.int iC_nodes, .int iC_words, .int iC_chances, .int iC_unsures, .int iC_slips, .int iC_throneNode, .int iC_saidWorth, .int iC_unit, .ref rC_kind, .ref rC_parts, .ref rC_partNodes, .ref rC_weights, .ref rC_weightSums, .ref rC_toldWorths, .ref rC_steps, .ref rC_below, .ref rC_above, .ref rC_unsureWords, .ref rC_unsureWorths])), (rC_unsureWords, .inl (kC_unsureWords, 4, .inl f_94)), (rC_unsureWorths, .inl (kC_unsureWorths, 4, .inl fC_unsureWorths))] H := hP
    have hD : va_D A [(oC, .inr (1, [.int iC_nodes, .int iC_words, .int iC_chances, .int iC_unsures, .int iC_slips, .int iC_throneNode, .int iC_saidWorth, .int iC_unit, .ref rC_kind, .ref rC_parts, .ref rC_partNodes, .ref rC_weights, .ref rC_weightSums, .ref rC_toldWorths, .ref rC_steps, .ref rC_below, .ref rC_above, .ref rC_unsureWords, .ref rC_unsureWorths])), (rC_unsureWords, .inl (kC_unsureWords, 4, .inl f_94)), (rC_unsureWorths, .inl (kC_unsureWorths, 4, .inl fC_unsureWorths))] := hD
    refine lv_aload_n hx hb dX1_addUnsure_18 rfl (lv_at hl 0 rfl) ?_
    refine va_get (D := (dC, dI)) (ci := 1) (v := .ref rC_unsureWorths) (C := RX1) (T := TX1) (N := 19) hx hb hts inX1 hown hK hP 0 rfl rfl 18 (by decide) (hts _ wd_64) (fun _ h9 => h9) rfl dX1_addUnsure_19 ?_
    refine lv_aload_n hx hb dX1_addUnsure_22 rfl (lv_at hl 0 rfl) ?_
    refine va_get (D := (dC, dI)) (ci := 1) (v := .int iC_unsures) (C := RX1) (T := TX1) (N := 19) hx hb hts inX1 hown hK hP 0 rfl rfl 3 (by decide) (hts _ wd_218) (fun _ h9 => h9) rfl dX1_addUnsure_23 ?_
    refine lv_iload_n hx hb dX1_addUnsure_26 rfl (lv_at hl 2 rfl) ?_
    refine vz_iast hx hb hK hP hD hS 2 1 rfl rfl (ti_in rfl (by omega) (by omega)) dX1_addUnsure_27 (fun H locs f_95 hP hD hS => ?_)
    have hP : va_P (dC, dI) vwCl [(oC, .inr (1, [.int iC_nodes, .int iC_words, .int iC_chances, .int iC_unsures, .int iC_slips, .int iC_throneNode, .int iC_saidWorth, .int iC_unit, .ref rC_kind, .ref rC_parts, .ref rC_partNodes, .ref rC_weights, .ref rC_weightSums, .ref rC_toldWorths, .ref rC_steps, .ref rC_below, .ref rC_above, .ref rC_unsureWords, .ref rC_unsureWorths])), (rC_unsureWords, .inl (kC_unsureWords, 4, .inl f_94)), (rC_unsureWorths, .inl (kC_unsureWorths, 4, .inl f_95))] H := hP
    have hD : va_D A [(oC, .inr (1, [.int iC_nodes, .int iC_words, .int iC_chances, .int iC_unsures, .int iC_slips, .int iC_throneNode, .int iC_saidWorth, .int iC_unit, .ref rC_kind, .ref rC_parts, .ref rC_partNodes, .ref rC_weights, .ref rC_weightSums, .ref rC_toldWorths, .ref rC_steps, .ref rC_below, .ref rC_above, .ref rC_unsureWords, .ref rC_unsureWorths])), (rC_unsureWords, .inl (kC_unsureWords, 4, .inl f_94)), (rC_unsureWorths, .inl (kC_unsureWorths, 4, .inl f_95))] := hD
    refine lv_aload_n hx hb dX1_addUnsure_28 rfl (lv_at hl 0 rfl) ?_
    refine lv_dup hx hb dX1_addUnsure_29 rfl ?_
    refine va_get (D := (dC, dI)) (ci := 1) (v := .int iC_unsures) (C := RX1) (T := TX1) (N := 19) hx hb hts inX1 hown hK hP 0 rfl rfl 3 (by decide) (hts _ wd_218) (fun _ h9 => h9) rfl dX1_addUnsure_30 ?_
    refine lv_iconst (v := 1) hx hb dX1_addUnsure_33 (by decide) ?_
    refine lv_iadd hx hb dX1_addUnsure_34 ?_
    refine lv_topi (fun x_96 ex_96 => ?_)
    have vx_96 : x_96.toInt = iC_unsures.toInt + 1 := by have q := ti_add ex_96 rfl kc_1 (by omega) (by omega); omega
    refine va_put (D := (dC, dI)) (ci := 1) (v := .int x_96) (ty := .int) (C := RX1) (T := TX1) (N := 19) hx hb hts inX1 tyX1 tyX1_ok nmX1 hown hK hP hD hS 0 rfl rfl 3 (by decide) (hts _ wd_218) (fun _ h9 => h9) rfl (by decide +kernel) rfl rfl (Nat.le_of_ble_eq_true rfl) dX1_addUnsure_35 (fun H locs hP hD hS => ?_)
    have hP : va_P (dC, dI) vwCl [(oC, .inr (1, [.int iC_nodes, .int iC_words, .int iC_chances, .int x_96, .int iC_slips, .int iC_throneNode, .int iC_saidWorth, .int iC_unit, .ref rC_kind, .ref rC_parts, .ref rC_partNodes, .ref rC_weights, .ref rC_weightSums, .ref rC_toldWorths, .ref rC_steps, .ref rC_below, .ref rC_above, .ref rC_unsureWords, .ref rC_unsureWorths])), (rC_unsureWords, .inl (kC_unsureWords, 4, .inl f_94)), (rC_unsureWorths, .inl (kC_unsureWorths, 4, .inl f_95))] H := hP
    have hD : va_D A [(oC, .inr (1, [.int iC_nodes, .int iC_words, .int iC_chances, .int x_96, .int iC_slips, .int iC_throneNode, .int iC_saidWorth, .int iC_unit, .ref rC_kind, .ref rC_parts, .ref rC_partNodes, .ref rC_weights, .ref rC_weightSums, .ref rC_toldWorths, .ref rC_steps, .ref rC_below, .ref rC_above, .ref rC_unsureWords, .ref rC_unsureWorths])), (rC_unsureWords, .inl (kC_unsureWords, 4, .inl f_94)), (rC_unsureWorths, .inl (kC_unsureWorths, 4, .inl f_95))] := hD
    have hP9 := hP.sub (ws' := [(oC, .inr (1, [.int iC_nodes, .int iC_words, .int iC_chances, .int x_96, .int iC_slips, .int iC_throneNode, .int iC_saidWorth, .int iC_unit, .ref rC_kind, .ref rC_parts, .ref rC_partNodes, .ref rC_weights, .ref rC_weightSums, .ref rC_toldWorths, .ref rC_steps, .ref rC_below, .ref rC_above, .ref rC_unsureWords, .ref rC_unsureWorths])), (rC_unsureWords, .inl (kC_unsureWords, 4, .inl f_94)), (rC_unsureWorths, .inl (kC_unsureWorths, 4, .inl f_95))]) [0, 1, 2] rfl
    have hD9 := hD.sub (ws' := [(oC, .inr (1, [.int iC_nodes, .int iC_words, .int iC_chances, .int x_96, .int iC_slips, .int iC_throneNode, .int iC_saidWorth, .int iC_unit, .ref rC_kind, .ref rC_parts, .ref rC_partNodes, .ref rC_weights, .ref rC_weightSums, .ref rC_toldWorths, .ref rC_steps, .ref rC_below, .ref rC_above, .ref rC_unsureWords, .ref rC_unsureWorths])), (rC_unsureWords, .inl (kC_unsureWords, 4, .inl f_94)), (rC_unsureWorths, .inl (kC_unsureWorths, 4, .inl f_95))]) [0, 1, 2] (by decide) rfl
    have hK9 := hK.sub (tys' := [(kC_unsureWords, .int), (kC_unsureWorths, .int)]) [0, 1] rfl
    exact W.vret hx hb hr (fun t ht hW => ⟨⟨0, rfl, trivial, ⟨x_96, f_94, f_95, (by have q := vx_96; omega), a_f_94, Bw.to hP9 hD9 hK9 ht hW⟩⟩, hS.F ht⟩) hS.2.2 dX1_addUnsure_38
set_option maxHeartbeats 4000000 in
set_option maxRecDepth 100000 in
theorem tX1_unsureSets (l : Launch) (dC : Nat → ClassId) (dI : Nat → Nat → Nat) (sz : Nat) (oC : Nat) (iC_nodes : Int32) (iC_words : Int32) (iC_chances : Int32) (iC_unsures : Int32) (iC_slips : Int32) (iC_throneNode : Int32) (iC_saidWorth : Int32) (iC_unit : Int32) (rC_kind : Nat) (rC_parts : Nat) (rC_partNodes : Nat) (rC_weights : Nat) (rC_weightSums : Nat) (rC_toldWorths : Nat) (rC_steps : Nat) (rC_below : Nat) (rC_above : Nat) (rC_unsureWords : Nat) (rC_unsureWorths : Nat) (b_iC_nodes : 0 ≤ iC_nodes.toInt ∧ iC_nodes.toInt ≤ 18) (b_iC_unsures : 0 ≤ iC_unsures.toInt ∧ iC_unsures.toInt ≤ 4)  : Met l yX1_unsureSets (Cond.code yX1_unsureSets cX1_unsureSets 1 (some .int) :: wG) ({ frames := 0, cells := 0, slots := 0, locals := 0 }) (va_Pc [.ref oC] (Pw dC dI sz [(oC, .inr (1, [.int iC_nodes, .int iC_words, .int iC_chances, .int iC_unsures, .int iC_slips, .int iC_throneNode, .int iC_saidWorth, .int iC_unit, .ref rC_kind, .ref rC_parts, .ref rC_partNodes, .ref rC_weights, .ref rC_weightSums, .ref rC_toldWorths, .ref rC_steps, .ref rC_below, .ref rC_above, .ref rC_unsureWords, .ref rC_unsureWorths]))] [])) (va_Qi (fun (r : Int32) (_ : Nat) => True ∧ (1 ≤ r.toInt ∧ r.toInt ≤ 16)) (fun (_ : Nat) (t : State) => Bw dC dI (va_A [(oC, .inr (1, [.int iC_nodes, .int iC_words, .int iC_chances, .int iC_unsures, .int iC_slips, .int iC_throneNode, .int iC_saidWorth, .int iC_unit, .ref rC_kind, .ref rC_parts, .ref rC_partNodes, .ref rC_weights, .ref rC_weightSums, .ref rC_toldWorths, .ref rC_steps, .ref rC_below, .ref rC_above, .ref rC_unsureWords, .ref rC_unsureWorths]))] sz) [(oC, .inr (1, [.int iC_nodes, .int iC_words, .int iC_chances, .int iC_unsures, .int iC_slips, .int iC_throneNode, .int iC_saidWorth, .int iC_unit, .ref rC_kind, .ref rC_parts, .ref rC_partNodes, .ref rC_weights, .ref rC_weightSums, .ref rC_toldWorths, .ref rC_steps, .ref rC_below, .ref rC_above, .ref rC_unsureWords, .ref rC_unsureWorths]))] [] t) (va_A [(oC, .inr (1, [.int iC_nodes, .int iC_words, .int iC_chances, .int iC_unsures, .int iC_slips, .int iC_throneNode, .int iC_saidWorth, .int iC_unit, .ref rC_kind, .ref rC_parts, .ref rC_partNodes, .ref rC_weights, .ref rC_weightSums, .ref rC_toldWorths, .ref rC_steps, .ref rC_below, .ref rC_above, .ref rC_unsureWords, .ref rC_unsureWorths]))] sz)) 0 0 (va_A [(oC, .inr (1, [.int iC_nodes, .int iC_words, .int iC_chances, .int iC_unsures, .int iC_slips, .int iC_throneNode, .int iC_saidWorth, .int iC_unit, .ref rC_kind, .ref rC_parts, .ref rC_partNodes, .ref rC_weights, .ref rC_weightSums, .ref rC_toldWorths, .ref rC_steps, .ref rC_below, .ref rC_above, .ref rC_unsureWords, .ref rC_unsureWorths]))] sz) := by
  refine Met.ofW (cc := cX1_unsureSets) (maxL := 1) (ret := (some .int)) (by decide) rfl ?_
  intro p e s m args below meth c s₁ B hml hv
  obtain ⟨rfl, hsz, hP, hK, hD0, hE⟩ := hv
  have hx := B.exec
  have hb := B.bytes
  have hr := B.returns
  have hts : ∀ w ∈ wG, w.before ([.ref oC] : List Value).toArray s = true := fun w h => atoms_spec (ws := Cond.code yX1_unsureSets cX1_unsureSets 1 (some .int) :: wG) B.pre w (List.mem_cons_of_mem _ h)
  have hown : s.vm.findClass RX1 = some m.cls := findClass_of_methodNamed B.named
  have hlocks := B.notSynchronized
  subst hsz
  have hD := hD0.self (sz := s.heap.size)
  generalize hAe : va_A [(oC, .inr (1, [.int iC_nodes, .int iC_words, .int iC_chances, .int iC_unsures, .int iC_slips, .int iC_throneNode, .int iC_saidWorth, .int iC_unit, .ref rC_kind, .ref rC_parts, .ref rC_partNodes, .ref rC_weights, .ref rC_weightSums, .ref rC_toldWorths, .ref rC_steps, .ref rC_below, .ref rC_above, .ref rC_unsureWords, .ref rC_unsureWorths]))] s.heap.size = A at hD hE ⊢
  have hA : ∀ q : Nat, s.heap.size ≤ q → A q := fun q h => by rw [← hAe]; exact Or.inr h
  have hS : va_S A s.heap s.heap [] := va_S.rf
  have hl := lv_entry ([.ref oC]) (n := 1) (Nat.le_of_ble_eq_true rfl)
  rw [lg_entry_eq]
  generalize (lg_sl ([.ref oC]) ++ List.replicate (1 - (lg_sl ([.ref oC])).length) Slot.unset).toArray = ls at hl ⊢
  have hl : lv_has ls 1 [(0, .ref oC)] := hl
  refine lv_iconst (v := 1) hx hb dX1_unsureSets_0 (by decide) ?_
  refine lv_aload_n hx hb dX1_unsureSets_1 rfl (lv_at hl 0 rfl) ?_
  refine va_get (D := (dC, dI)) (ci := 1) (v := .int iC_unsures) (C := RX1) (T := TX1) (N := 19) hx hb hts inX1 hown hK hP 0 rfl rfl 3 (by decide) (hts _ wd_218) (fun _ h9 => h9) rfl dX1_unsureSets_2 ?_
  have rg_iC_unsures := fb_rng iC_unsures
  refine lv_ishl hx hb dX1_unsureSets_5 ?_
  refine lv_topi (fun x_98 ex_98 => ?_)
  have rg_x_98 := fb_rng x_98
  have qx_98 := ti_shl ex_98 rfl (by omega) (by omega)
  have hP9 := hP.sub (ws' := [(oC, .inr (1, [.int iC_nodes, .int iC_words, .int iC_chances, .int iC_unsures, .int iC_slips, .int iC_throneNode, .int iC_saidWorth, .int iC_unit, .ref rC_kind, .ref rC_parts, .ref rC_partNodes, .ref rC_weights, .ref rC_weightSums, .ref rC_toldWorths, .ref rC_steps, .ref rC_below, .ref rC_above, .ref rC_unsureWords, .ref rC_unsureWorths]))]) [0] rfl
  have hD9 := hD.sub (ws' := [(oC, .inr (1, [.int iC_nodes, .int iC_words, .int iC_chances, .int iC_unsures, .int iC_slips, .int iC_throneNode, .int iC_saidWorth, .int iC_unit, .ref rC_kind, .ref rC_parts, .ref rC_partNodes, .ref rC_weights, .ref rC_weightSums, .ref rC_toldWorths, .ref rC_steps, .ref rC_below, .ref rC_above, .ref rC_unsureWords, .ref rC_unsureWorths]))]) [0] (by decide) rfl
  have hK9 := hK.sub (tys' := []) [] rfl
  exact W.iret hx hb hr (fun t ht hW => ⟨⟨_, 0, rfl, ⟨trivial, (by omega)⟩, Bw.to hP9 hD9 hK9 ht hW⟩, hS.F ht⟩) hS.2.2 dX1_unsureSets_6
set_option maxHeartbeats 4000000 in
set_option maxRecDepth 100000 in
theorem tX1_placeOfPart (l : Launch) (dC : Nat → ClassId) (dI : Nat → Nat → Nat) (sz : Nat) (oC : Nat) (iC_nodes : Int32) (iC_words : Int32) (iC_chances : Int32) (iC_unsures : Int32) (iC_slips : Int32) (iC_throneNode : Int32) (iC_saidWorth : Int32) (iC_unit : Int32) (rC_kind : Nat) (rC_parts : Nat) (fC_parts : Nat → Int32) (kC_parts : ClassId) (rC_partNodes : Nat) (fC_partNodes : Nat → Int32) (kC_partNodes : ClassId) (rC_weights : Nat) (rC_weightSums : Nat) (rC_toldWorths : Nat) (rC_steps : Nat) (rC_below : Nat) (rC_above : Nat) (rC_unsureWords : Nat) (rC_unsureWorths : Nat) (p0 : Int32) (p1 : Int32) (b_iC_nodes : 0 ≤ iC_nodes.toInt ∧ iC_nodes.toInt ≤ 18) (b_iC_unsures : 0 ≤ iC_unsures.toInt ∧ iC_unsures.toInt ≤ 4) (a_fC_parts : ∀ j : Nat, j < 18 → 0 ≤ (fC_parts j).toInt ∧ (fC_parts j).toInt ≤ 4) (a_fC_partNodes : ∀ j : Nat, j < 72 → 0 ≤ (fC_partNodes j).toInt ∧ (fC_partNodes j).toInt ≤ 17)  : Met l yX1_placeOfPart (Cond.code yX1_placeOfPart cX1_placeOfPart 4 (some .int) :: wG) ({ frames := 0, cells := 0, slots := 0, locals := 0 }) (va_Pc [.ref oC, .int p0, .int p1] (Pw dC dI sz [(oC, .inr (1, [.int iC_nodes, .int iC_words, .int iC_chances, .int iC_unsures, .int iC_slips, .int iC_throneNode, .int iC_saidWorth, .int iC_unit, .ref rC_kind, .ref rC_parts, .ref rC_partNodes, .ref rC_weights, .ref rC_weightSums, .ref rC_toldWorths, .ref rC_steps, .ref rC_below, .ref rC_above, .ref rC_unsureWords, .ref rC_unsureWorths])), (rC_parts, .inl (kC_parts, 18, .inl fC_parts)), (rC_partNodes, .inl (kC_partNodes, 72, .inl fC_partNodes))] [(kC_parts, .int), (kC_partNodes, .int)])) (va_Qi (fun (r : Int32) (_ : Nat) => True ∧ ((-1) ≤ r.toInt ∧ r.toInt ≤ 3)) (fun (_ : Nat) (t : State) => Bw dC dI (va_A [(oC, .inr (1, [.int iC_nodes, .int iC_words, .int iC_chances, .int iC_unsures, .int iC_slips, .int iC_throneNode, .int iC_saidWorth, .int iC_unit, .ref rC_kind, .ref rC_parts, .ref rC_partNodes, .ref rC_weights, .ref rC_weightSums, .ref rC_toldWorths, .ref rC_steps, .ref rC_below, .ref rC_above, .ref rC_unsureWords, .ref rC_unsureWorths])), (rC_parts, .inl (kC_parts, 18, .inl fC_parts)), (rC_partNodes, .inl (kC_partNodes, 72, .inl fC_partNodes))] sz) [(oC, .inr (1, [.int iC_nodes, .int iC_words, .int iC_chances, .int iC_unsures, .int iC_slips, .int iC_throneNode, .int iC_saidWorth, .int iC_unit, .ref rC_kind, .ref rC_parts, .ref rC_partNodes, .ref rC_weights, .ref rC_weightSums, .ref rC_toldWorths, .ref rC_steps, .ref rC_below, .ref rC_above, .ref rC_unsureWords, .ref rC_unsureWorths])), (rC_parts, .inl (kC_parts, 18, .inl fC_parts)), (rC_partNodes, .inl (kC_partNodes, 72, .inl fC_partNodes))] [(kC_parts, .int), (kC_partNodes, .int)] t) (va_A [(oC, .inr (1, [.int iC_nodes, .int iC_words, .int iC_chances, .int iC_unsures, .int iC_slips, .int iC_throneNode, .int iC_saidWorth, .int iC_unit, .ref rC_kind, .ref rC_parts, .ref rC_partNodes, .ref rC_weights, .ref rC_weightSums, .ref rC_toldWorths, .ref rC_steps, .ref rC_below, .ref rC_above, .ref rC_unsureWords, .ref rC_unsureWorths])), (rC_parts, .inl (kC_parts, 18, .inl fC_parts)), (rC_partNodes, .inl (kC_partNodes, 72, .inl fC_partNodes))] sz)) 0 0 (va_A [(oC, .inr (1, [.int iC_nodes, .int iC_words, .int iC_chances, .int iC_unsures, .int iC_slips, .int iC_throneNode, .int iC_saidWorth, .int iC_unit, .ref rC_kind, .ref rC_parts, .ref rC_partNodes, .ref rC_weights, .ref rC_weightSums, .ref rC_toldWorths, .ref rC_steps, .ref rC_below, .ref rC_above, .ref rC_unsureWords, .ref rC_unsureWorths])), (rC_parts, .inl (kC_parts, 18, .inl fC_parts)), (rC_partNodes, .inl (kC_partNodes, 72, .inl fC_partNodes))] sz) := by
  refine Met.ofW (cc := cX1_placeOfPart) (maxL := 4) (ret := (some .int)) (by decide) rfl ?_
  intro p e s m args below meth c s₁ B hml hv
  obtain ⟨rfl, hsz, hP, hK, hD0, hE⟩ := hv
  have hx := B.exec
  have hb := B.bytes
  have hr := B.returns
  have hts : ∀ w ∈ wG, w.before ([.ref oC, .int p0, .int p1] : List Value).toArray s = true := fun w h => atoms_spec (ws := Cond.code yX1_placeOfPart cX1_placeOfPart 4 (some .int) :: wG) B.pre w (List.mem_cons_of_mem _ h)
  have hown : s.vm.findClass RX1 = some m.cls := findClass_of_methodNamed B.named
  have hlocks := B.notSynchronized
  subst hsz
  have hD := hD0.self (sz := s.heap.size)
  generalize hAe : va_A [(oC, .inr (1, [.int iC_nodes, .int iC_words, .int iC_chances, .int iC_unsures, .int iC_slips, .int iC_throneNode, .int iC_saidWorth, .int iC_unit, .ref rC_kind, .ref rC_parts, .ref rC_partNodes, .ref rC_weights, .ref rC_weightSums, .ref rC_toldWorths, .ref rC_steps, .ref rC_below, .ref rC_above, .ref rC_unsureWords, .ref rC_unsureWorths])), (rC_parts, .inl (kC_parts, 18, .inl fC_parts)), (rC_partNodes, .inl (kC_partNodes, 72, .inl fC_partNodes))] s.heap.size = A at hD hE ⊢
  have hA : ∀ q : Nat, s.heap.size ≤ q → A q := fun q h => by rw [← hAe]; exact Or.inr h
  have hS : va_S A s.heap s.heap [] := va_S.rf
  have hl := lv_entry ([.ref oC, .int p0, .int p1]) (n := 4) (Nat.le_of_ble_eq_true rfl)
  rw [lg_entry_eq]
  generalize (lg_sl ([.ref oC, .int p0, .int p1]) ++ List.replicate (4 - (lg_sl ([.ref oC, .int p0, .int p1])).length) Slot.unset).toArray = ls at hl ⊢
  have hl : lv_has ls 4 [(0, .ref oC), (1, .int p0), (2, .int p1)] := hl
  have rg_p0 := fb_rng p0
  have rg_p1 := fb_rng p1
  refine lv_iload_n hx hb dX1_placeOfPart_0 rfl (lv_at hl 1 rfl) ?_
  refine lv_if_lt (tgt := 10) hx hb dX1_placeOfPart_1 (by decide) (fun c_110 => ?_) (fun c_110 => ?_)
  · skip
    have gc_110 := ti_lt c_110 rfl kc_0
    refine lv_iconst (v := (-1)) hx hb dX1_placeOfPart_10 (by decide) ?_
    have hP9 := hP.sub (ws' := [(oC, .inr (1, [.int iC_nodes, .int iC_words, .int iC_chances, .int iC_unsures, .int iC_slips, .int iC_throneNode, .int iC_saidWorth, .int iC_unit, .ref rC_kind, .ref rC_parts, .ref rC_partNodes, .ref rC_weights, .ref rC_weightSums, .ref rC_toldWorths, .ref rC_steps, .ref rC_below, .ref rC_above, .ref rC_unsureWords, .ref rC_unsureWorths])), (rC_parts, .inl (kC_parts, 18, .inl fC_parts)), (rC_partNodes, .inl (kC_partNodes, 72, .inl fC_partNodes))]) [0, 1, 2] rfl
    have hD9 := hD.sub (ws' := [(oC, .inr (1, [.int iC_nodes, .int iC_words, .int iC_chances, .int iC_unsures, .int iC_slips, .int iC_throneNode, .int iC_saidWorth, .int iC_unit, .ref rC_kind, .ref rC_parts, .ref rC_partNodes, .ref rC_weights, .ref rC_weightSums, .ref rC_toldWorths, .ref rC_steps, .ref rC_below, .ref rC_above, .ref rC_unsureWords, .ref rC_unsureWorths])), (rC_parts, .inl (kC_parts, 18, .inl fC_parts)), (rC_partNodes, .inl (kC_partNodes, 72, .inl fC_partNodes))]) [0, 1, 2] (by decide) rfl
    have hK9 := hK.sub (tys' := [(kC_parts, .int), (kC_partNodes, .int)]) [0, 1] rfl
    exact W.iret hx hb hr (fun t ht hW => ⟨⟨_, 0, rfl, ⟨trivial, (by decide)⟩, Bw.to hP9 hD9 hK9 ht hW⟩, hS.F ht⟩) hS.2.2 dX1_placeOfPart_11
  · skip
    have gc_110 := ti_nlt c_110 rfl kc_0
    refine lv_iload_n hx hb dX1_placeOfPart_4 rfl (lv_at hl 1 rfl) ?_
    refine lv_bipush (v := 18) hx hb dX1_placeOfPart_5 (by decide) ?_
    refine lv_icmp_lt (tgt := 12) hx hb dX1_placeOfPart_7 (by decide) (fun c_111 => ?_) (fun c_111 => ?_)
    · skip
      have gc_111 := ti_lt c_111 rfl kc_18
      refine lv_iconst (v := 0) hx hb dX1_placeOfPart_12 (by decide) ?_
      refine lv_istore_n (lv' := [(3, .int 0), (0, .ref oC), (1, .int p0), (2, .int p1)]) hx hb dX1_placeOfPart_13 rfl hl (by decide) rfl (fun ls hl => ?_)
      have hl := lv_sub hl (l' := [(3, .int 0), (0, .ref oC), (1, .int p0), (2, .int p1)]) [0, 1, 2, 3] rfl
      have key_n_113 : ∀ (n_113 : Nat) (z_112 : Int32) (H : Heap) (locs : List Loc) (ls : Array Slot), (0 ≤ z_112.toInt ∧ z_112.toInt ≤ 2147483647) → (2147483647 - z_112.toInt).toNat < n_113 → va_P (dC, dI) vwCl [(oC, .inr (1, [.int iC_nodes, .int iC_words, .int iC_chances, .int iC_unsures, .int iC_slips, .int iC_throneNode, .int iC_saidWorth, .int iC_unit, .ref rC_kind, .ref rC_parts, .ref rC_partNodes, .ref rC_weights, .ref rC_weightSums, .ref rC_toldWorths, .ref rC_steps, .ref rC_below, .ref rC_above, .ref rC_unsureWords, .ref rC_unsureWorths])), (rC_parts, .inl (kC_parts, 18, .inl fC_parts)), (rC_partNodes, .inl (kC_partNodes, 72, .inl fC_partNodes))] H → va_D A [(oC, .inr (1, [.int iC_nodes, .int iC_words, .int iC_chances, .int iC_unsures, .int iC_slips, .int iC_throneNode, .int iC_saidWorth, .int iC_unit, .ref rC_kind, .ref rC_parts, .ref rC_partNodes, .ref rC_weights, .ref rC_weightSums, .ref rC_toldWorths, .ref rC_steps, .ref rC_below, .ref rC_above, .ref rC_unsureWords, .ref rC_unsureWorths])), (rC_parts, .inl (kC_parts, 18, .inl fC_parts)), (rC_partNodes, .inl (kC_partNodes, 72, .inl fC_partNodes))] → va_S A s.heap H locs → lv_has ls 4 [(3, .int z_112), (0, .ref oC), (1, .int p0), (2, .int p1)] → W p l e (headSpec (Cond.code yX1_placeOfPart cX1_placeOfPart 4 (some .int) :: wG) ({ frames := 0, cells := 0, slots := 0, locals := 0 })).room s m ([.ref oC, .int p0, .int p1] : List Value).toArray below meth c H locs 0 0 (MQ below (va_Qi (fun (r : Int32) (_ : Nat) => True ∧ ((-1) ≤ r.toInt ∧ r.toInt ≤ 3)) (fun (_ : Nat) (t : State) => Bw dC dI A [(oC, .inr (1, [.int iC_nodes, .int iC_words, .int iC_chances, .int iC_unsures, .int iC_slips, .int iC_throneNode, .int iC_saidWorth, .int iC_unit, .ref rC_kind, .ref rC_parts, .ref rC_partNodes, .ref rC_weights, .ref rC_weightSums, .ref rC_toldWorths, .ref rC_steps, .ref rC_below, .ref rC_above, .ref rC_unsureWords, .ref rC_unsureWorths])), (rC_parts, .inl (kC_parts, 18, .inl fC_parts)), (rC_partNodes, .inl (kC_partNodes, 72, .inl fC_partNodes))] [(kC_parts, .int), (kC_partNodes, .int)] t) A) ([.ref oC, .int p0, .int p1] : List Value).toArray s 0 0 A) (F0 m 14 ls []) := by
        intro n_113
        induction n_113 with
        | zero => intro z_112 H locs ls hi0_n_113 hm; exact absurd hm (by omega)
        | succ n_113 ih_n_113 =>
          intro z_112 H locs ls hi0_n_113 hm hP hD hS hl
          have rg_z_112 := fb_rng z_112
          refine lv_iload_n hx hb dX1_placeOfPart_14 rfl (lv_at hl 0 rfl) ?_
          refine lv_aload_n hx hb dX1_placeOfPart_15 rfl (lv_at hl 1 rfl) ?_
          refine va_get (D := (dC, dI)) (ci := 1) (v := .ref rC_parts) (C := RX1) (T := TX1) (N := 19) hx hb hts inX1 hown hK hP 0 rfl rfl 9 (by decide) (hts _ wd_55) (fun _ h9 => h9) rfl dX1_placeOfPart_16 ?_
          refine lv_iload_n hx hb dX1_placeOfPart_19 rfl (lv_at hl 2 rfl) ?_
          refine va_iald hx hb hK hP 1 0 rfl rfl (ti_in rfl (by omega) (by omega)) dX1_placeOfPart_20 ?_
          refine lv_topi (fun x_114 ex_114 => ?_)
          have rg_x_114 := fb_rng x_114
          have kx_114 : (fC_parts p0.toNatClampNeg).toInt = x_114.toInt := by rw [ex_114]
          have ux_114 := a_fC_parts _ (by have q := ti_cl (x := p0) rfl (by omega); omega : p0.toNatClampNeg < 18)
          rw [show fC_parts p0.toNatClampNeg = x_114 from ex_114.symm] at ux_114
          refine lv_icmp_ge (tgt := 46) hx hb dX1_placeOfPart_21 (by decide) (fun c_115 => ?_) (fun c_115 => ?_)
          · skip
            have gc_115 := ti_le c_115 rfl rfl
            refine lv_iconst (v := (-1)) hx hb dX1_placeOfPart_46 (by decide) ?_
            have hP9 := hP.sub (ws' := [(oC, .inr (1, [.int iC_nodes, .int iC_words, .int iC_chances, .int iC_unsures, .int iC_slips, .int iC_throneNode, .int iC_saidWorth, .int iC_unit, .ref rC_kind, .ref rC_parts, .ref rC_partNodes, .ref rC_weights, .ref rC_weightSums, .ref rC_toldWorths, .ref rC_steps, .ref rC_below, .ref rC_above, .ref rC_unsureWords, .ref rC_unsureWorths])), (rC_parts, .inl (kC_parts, 18, .inl fC_parts)), (rC_partNodes, .inl (kC_partNodes, 72, .inl fC_partNodes))]) [0, 1, 2] rfl
            have hD9 := hD.sub (ws' := [(oC, .inr (1, [.int iC_nodes, .int iC_words, .int iC_chances, .int iC_unsures, .int iC_slips, .int iC_throneNode, .int iC_saidWorth, .int iC_unit, .ref rC_kind, .ref rC_parts, .ref rC_partNodes, .ref rC_weights, .ref rC_weightSums, .ref rC_toldWorths, .ref rC_steps, .ref rC_below, .ref rC_above, .ref rC_unsureWords, .ref rC_unsureWorths])), (rC_parts, .inl (kC_parts, 18, .inl fC_parts)), (rC_partNodes, .inl (kC_partNodes, 72, .inl fC_partNodes))]) [0, 1, 2] (by decide) rfl
            have hK9 := hK.sub (tys' := [(kC_parts, .int), (kC_partNodes, .int)]) [0, 1] rfl
            exact W.iret hx hb hr (fun t ht hW => ⟨⟨_, 0, rfl, ⟨trivial, (by decide)⟩, Bw.to hP9 hD9 hK9 ht hW⟩, hS.F ht⟩) hS.2.2 dX1_placeOfPart_47
          · skip
            have gc_115 := ti_nle c_115 rfl rfl
            refine lv_aload_n hx hb dX1_placeOfPart_24 rfl (lv_at hl 1 rfl) ?_
            refine va_get (D := (dC, dI)) (ci := 1) (v := .ref rC_partNodes) (C := RX1) (T := TX1) (N := 19) hx hb hts inX1 hown hK hP 0 rfl rfl 10 (by decide) (hts _ wd_56) (fun _ h9 => h9) rfl dX1_placeOfPart_25 ?_
            refine lv_iload_n hx hb dX1_placeOfPart_28 rfl (lv_at hl 2 rfl) ?_
            refine lv_iconst (v := 4) hx hb dX1_placeOfPart_29 (by decide) ?_
            refine lv_imul hx hb dX1_placeOfPart_30 ?_
            refine lv_topi (fun x_116 ex_116 => ?_)
            have vx_116 : x_116.toInt = 4 * p0.toInt := by have q := ti_mul ex_116 rfl kc_4 (by omega) (by omega); omega
            refine lv_iload_n hx hb dX1_placeOfPart_31 rfl (lv_at hl 0 rfl) ?_
            refine lv_iadd hx hb dX1_placeOfPart_32 ?_
            refine lv_topi (fun x_117 ex_117 => ?_)
            have vx_117 : x_117.toInt = 4 * p0.toInt + z_112.toInt := by have q := ti_add ex_117 vx_116 rfl (by omega) (by omega); omega
            refine va_iald hx hb hK hP 2 1 rfl rfl (ti_in vx_117 (by omega) (by omega)) dX1_placeOfPart_33 ?_
            refine lv_topi (fun x_118 ex_118 => ?_)
            have rg_x_118 := fb_rng x_118
            have kx_118 : (fC_partNodes x_117.toNatClampNeg).toInt = x_118.toInt := by rw [ex_118]
            have ux_118 := a_fC_partNodes _ (by have q := ti_cl (x := x_117) vx_117 (by omega); omega : x_117.toNatClampNeg < 72)
            rw [show fC_partNodes x_117.toNatClampNeg = x_118 from ex_118.symm] at ux_118
            refine lv_iload_n hx hb dX1_placeOfPart_34 rfl (lv_at hl 3 rfl) ?_
            refine lv_icmp_ne (tgt := 40) hx hb dX1_placeOfPart_35 (by decide) (fun c_119 => ?_) (fun c_119 => ?_)
            · skip
              have gc_119 := ti_ne c_119 rfl rfl
              obtain ⟨x_120, ex_120⟩ : ∃ z : Int32, z = z_112 + Int32.ofInt 1 := ⟨_, rfl⟩
              have vx_120 : x_120.toInt = z_112.toInt + 1 := by have q := ti_add (y := 1) ex_120 rfl kc_1 (by omega) (by omega); omega
              refine lv_iinc (v := x_120) (lv' := [(3, .int x_120), (0, .ref oC), (1, .int p0), (2, .int p1)]) hx hb dX1_placeOfPart_40 hl (k := 0) rfl ex_120.symm (by decide) rfl (fun ls hl => ?_)
              refine lv_goto (tgt := 14) hx hb dX1_placeOfPart_43 (by decide) ?_
              exact ih_n_113 x_120 _ _ _  (by first | omega | decide) (by omega) (hP.sub [0, 1, 2] rfl) (hD.sub [0, 1, 2] (by decide) rfl) hS (lv_sub hl [0, 1, 2, 3] rfl)
            · skip
              have gc_119 := ti_eq c_119 rfl rfl
              refine lv_iload_n hx hb dX1_placeOfPart_38 rfl (lv_at hl 0 rfl) ?_
              have hP9 := hP.sub (ws' := [(oC, .inr (1, [.int iC_nodes, .int iC_words, .int iC_chances, .int iC_unsures, .int iC_slips, .int iC_throneNode, .int iC_saidWorth, .int iC_unit, .ref rC_kind, .ref rC_parts, .ref rC_partNodes, .ref rC_weights, .ref rC_weightSums, .ref rC_toldWorths, .ref rC_steps, .ref rC_below, .ref rC_above, .ref rC_unsureWords, .ref rC_unsureWorths])), (rC_parts, .inl (kC_parts, 18, .inl fC_parts)), (rC_partNodes, .inl (kC_partNodes, 72, .inl fC_partNodes))]) [0, 1, 2] rfl
              have hD9 := hD.sub (ws' := [(oC, .inr (1, [.int iC_nodes, .int iC_words, .int iC_chances, .int iC_unsures, .int iC_slips, .int iC_throneNode, .int iC_saidWorth, .int iC_unit, .ref rC_kind, .ref rC_parts, .ref rC_partNodes, .ref rC_weights, .ref rC_weightSums, .ref rC_toldWorths, .ref rC_steps, .ref rC_below, .ref rC_above, .ref rC_unsureWords, .ref rC_unsureWorths])), (rC_parts, .inl (kC_parts, 18, .inl fC_parts)), (rC_partNodes, .inl (kC_partNodes, 72, .inl fC_partNodes))]) [0, 1, 2] (by decide) rfl
              have hK9 := hK.sub (tys' := [(kC_parts, .int), (kC_partNodes, .int)]) [0, 1] rfl
              exact W.iret hx hb hr (fun t ht hW => ⟨⟨_, 0, rfl, ⟨trivial, (by omega)⟩, Bw.to hP9 hD9 hK9 ht hW⟩, hS.F ht⟩) hS.2.2 dX1_placeOfPart_39
      exact key_n_113 ((2147483647 - (0 : Int32).toInt).toNat + 1) 0 _ _ _  (by first | omega | decide) (by omega) hP hD hS hl
    · skip
      have gc_111 := ti_nlt c_111 rfl kc_18
      refine lv_iconst (v := (-1)) hx hb dX1_placeOfPart_10 (by decide) ?_
      have hP9 := hP.sub (ws' := [(oC, .inr (1, [.int iC_nodes, .int iC_words, .int iC_chances, .int iC_unsures, .int iC_slips, .int iC_throneNode, .int iC_saidWorth, .int iC_unit, .ref rC_kind, .ref rC_parts, .ref rC_partNodes, .ref rC_weights, .ref rC_weightSums, .ref rC_toldWorths, .ref rC_steps, .ref rC_below, .ref rC_above, .ref rC_unsureWords, .ref rC_unsureWorths])), (rC_parts, .inl (kC_parts, 18, .inl fC_parts)), (rC_partNodes, .inl (kC_partNodes, 72, .inl fC_partNodes))]) [0, 1, 2] rfl
      have hD9 := hD.sub (ws' := [(oC, .inr (1, [.int iC_nodes, .int iC_words, .int iC_chances, .int iC_unsures, .int iC_slips, .int iC_throneNode, .int iC_saidWorth, .int iC_unit, .ref rC_kind, .ref rC_parts, .ref rC_partNodes, .ref rC_weights, .ref rC_weightSums, .ref rC_toldWorths, .ref rC_steps, .ref rC_below, .ref rC_above, .ref rC_unsureWords, .ref rC_unsureWorths])), (rC_parts, .inl (kC_parts, 18, .inl fC_parts)), (rC_partNodes, .inl (kC_partNodes, 72, .inl fC_partNodes))]) [0, 1, 2] (by decide) rfl
      have hK9 := hK.sub (tys' := [(kC_parts, .int), (kC_partNodes, .int)]) [0, 1] rfl
      exact W.iret hx hb hr (fun t ht hW => ⟨⟨_, 0, rfl, ⟨trivial, (by decide)⟩, Bw.to hP9 hD9 hK9 ht hW⟩, hS.F ht⟩) hS.2.2 dX1_placeOfPart_11
set_option maxHeartbeats 4000000 in
set_option maxRecDepth 100000 in
theorem tX1_isUnsure (l : Launch) (dC : Nat → ClassId) (dI : Nat → Nat → Nat) (sz : Nat) (oC : Nat) (iC_nodes : Int32) (iC_words : Int32) (iC_chances : Int32) (iC_unsures : Int32) (iC_slips : Int32) (iC_throneNode : Int32) (iC_saidWorth : Int32) (iC_unit : Int32) (rC_kind : Nat) (rC_parts : Nat) (rC_partNodes : Nat) (rC_weights : Nat) (rC_weightSums : Nat) (rC_toldWorths : Nat) (rC_steps : Nat) (rC_below : Nat) (rC_above : Nat) (rC_unsureWords : Nat) (fC_unsureWords : Nat → Int32) (kC_unsureWords : ClassId) (rC_unsureWorths : Nat) (p0 : Int32) (b_iC_nodes : 0 ≤ iC_nodes.toInt ∧ iC_nodes.toInt ≤ 18) (b_iC_unsures : 0 ≤ iC_unsures.toInt ∧ iC_unsures.toInt ≤ 4) (a_fC_unsureWords : ∀ j : Nat, j < 4 → 0 ≤ (fC_unsureWords j).toInt ∧ (fC_unsureWords j).toInt ≤ 17)  : Met l yX1_isUnsure (Cond.code yX1_isUnsure cX1_isUnsure 3 (some .boolean) :: wG) ({ frames := 0, cells := 0, slots := 0, locals := 0 }) (va_Pc [.ref oC, .int p0] (Pw dC dI sz [(oC, .inr (1, [.int iC_nodes, .int iC_words, .int iC_chances, .int iC_unsures, .int iC_slips, .int iC_throneNode, .int iC_saidWorth, .int iC_unit, .ref rC_kind, .ref rC_parts, .ref rC_partNodes, .ref rC_weights, .ref rC_weightSums, .ref rC_toldWorths, .ref rC_steps, .ref rC_below, .ref rC_above, .ref rC_unsureWords, .ref rC_unsureWorths])), (rC_unsureWords, .inl (kC_unsureWords, 4, .inl fC_unsureWords))] [(kC_unsureWords, .int)])) (va_Qi (fun (r : Int32) (_ : Nat) => (r = 0 ∨ r = 1) ∧ True) (fun (_ : Nat) (t : State) => Bw dC dI (va_A [(oC, .inr (1, [.int iC_nodes, .int iC_words, .int iC_chances, .int iC_unsures, .int iC_slips, .int iC_throneNode, .int iC_saidWorth, .int iC_unit, .ref rC_kind, .ref rC_parts, .ref rC_partNodes, .ref rC_weights, .ref rC_weightSums, .ref rC_toldWorths, .ref rC_steps, .ref rC_below, .ref rC_above, .ref rC_unsureWords, .ref rC_unsureWorths])), (rC_unsureWords, .inl (kC_unsureWords, 4, .inl fC_unsureWords))] sz) [(oC, .inr (1, [.int iC_nodes, .int iC_words, .int iC_chances, .int iC_unsures, .int iC_slips, .int iC_throneNode, .int iC_saidWorth, .int iC_unit, .ref rC_kind, .ref rC_parts, .ref rC_partNodes, .ref rC_weights, .ref rC_weightSums, .ref rC_toldWorths, .ref rC_steps, .ref rC_below, .ref rC_above, .ref rC_unsureWords, .ref rC_unsureWorths])), (rC_unsureWords, .inl (kC_unsureWords, 4, .inl fC_unsureWords))] [(kC_unsureWords, .int)] t) (va_A [(oC, .inr (1, [.int iC_nodes, .int iC_words, .int iC_chances, .int iC_unsures, .int iC_slips, .int iC_throneNode, .int iC_saidWorth, .int iC_unit, .ref rC_kind, .ref rC_parts, .ref rC_partNodes, .ref rC_weights, .ref rC_weightSums, .ref rC_toldWorths, .ref rC_steps, .ref rC_below, .ref rC_above, .ref rC_unsureWords, .ref rC_unsureWorths])), (rC_unsureWords, .inl (kC_unsureWords, 4, .inl fC_unsureWords))] sz)) 0 0 (va_A [(oC, .inr (1, [.int iC_nodes, .int iC_words, .int iC_chances, .int iC_unsures, .int iC_slips, .int iC_throneNode, .int iC_saidWorth, .int iC_unit, .ref rC_kind, .ref rC_parts, .ref rC_partNodes, .ref rC_weights, .ref rC_weightSums, .ref rC_toldWorths, .ref rC_steps, .ref rC_below, .ref rC_above, .ref rC_unsureWords, .ref rC_unsureWorths])), (rC_unsureWords, .inl (kC_unsureWords, 4, .inl fC_unsureWords))] sz) := by
  refine Met.ofW (cc := cX1_isUnsure) (maxL := 3) (ret := (some .boolean)) (by decide) rfl ?_
  intro p e s m args below meth c s₁ B hml hv
  obtain ⟨rfl, hsz, hP, hK, hD0, hE⟩ := hv
  have hx := B.exec
  have hb := B.bytes
  have hr := B.returns
  have hts : ∀ w ∈ wG, w.before ([.ref oC, .int p0] : List Value).toArray s = true := fun w h => atoms_spec (ws := Cond.code yX1_isUnsure cX1_isUnsure 3 (some .boolean) :: wG) B.pre w (List.mem_cons_of_mem _ h)
  have hown : s.vm.findClass RX1 = some m.cls := findClass_of_methodNamed B.named
  have hlocks := B.notSynchronized
  subst hsz
  have hD := hD0.self (sz := s.heap.size)
  generalize hAe : va_A [(oC, .inr (1, [.int iC_nodes, .int iC_words, .int iC_chances, .int iC_unsures, .int iC_slips, .int iC_throneNode, .int iC_saidWorth, .int iC_unit, .ref rC_kind, .ref rC_parts, .ref rC_partNodes, .ref rC_weights, .ref rC_weightSums, .ref rC_toldWorths, .ref rC_steps, .ref rC_below, .ref rC_above, .ref rC_unsureWords, .ref rC_unsureWorths])), (rC_unsureWords, .inl (kC_unsureWords, 4, .inl fC_unsureWords))] s.heap.size = A at hD hE ⊢
  have hA : ∀ q : Nat, s.heap.size ≤ q → A q := fun q h => by rw [← hAe]; exact Or.inr h
  have hS : va_S A s.heap s.heap [] := va_S.rf
  have hl := lv_entry ([.ref oC, .int p0]) (n := 3) (Nat.le_of_ble_eq_true rfl)
  rw [lg_entry_eq]
  generalize (lg_sl ([.ref oC, .int p0]) ++ List.replicate (3 - (lg_sl ([.ref oC, .int p0])).length) Slot.unset).toArray = ls at hl ⊢
  have hl : lv_has ls 3 [(0, .ref oC), (1, .int p0)] := hl
  have rg_p0 := fb_rng p0
  refine lv_iconst (v := 0) hx hb dX1_isUnsure_0 (by decide) ?_
  refine lv_istore_n (lv' := [(2, .int 0), (0, .ref oC), (1, .int p0)]) hx hb dX1_isUnsure_1 rfl hl (by decide) rfl (fun ls hl => ?_)
  have hl := lv_sub hl (l' := [(2, .int 0), (0, .ref oC), (1, .int p0)]) [0, 1, 2] rfl
  have key_n_128 : ∀ (n_128 : Nat) (z_127 : Int32) (H : Heap) (locs : List Loc) (ls : Array Slot), (0 ≤ z_127.toInt ∧ z_127.toInt ≤ 2147483647) → (2147483647 - z_127.toInt).toNat < n_128 → va_P (dC, dI) vwCl [(oC, .inr (1, [.int iC_nodes, .int iC_words, .int iC_chances, .int iC_unsures, .int iC_slips, .int iC_throneNode, .int iC_saidWorth, .int iC_unit, .ref rC_kind, .ref rC_parts, .ref rC_partNodes, .ref rC_weights, .ref rC_weightSums, .ref rC_toldWorths, .ref rC_steps, .ref rC_below, .ref rC_above, .ref rC_unsureWords, .ref rC_unsureWorths])), (rC_unsureWords, .inl (kC_unsureWords, 4, .inl fC_unsureWords))] H → va_D A [(oC, .inr (1, [.int iC_nodes, .int iC_words, .int iC_chances, .int iC_unsures, .int iC_slips, .int iC_throneNode, .int iC_saidWorth, .int iC_unit, .ref rC_kind, .ref rC_parts, .ref rC_partNodes, .ref rC_weights, .ref rC_weightSums, .ref rC_toldWorths, .ref rC_steps, .ref rC_below, .ref rC_above, .ref rC_unsureWords, .ref rC_unsureWorths])), (rC_unsureWords, .inl (kC_unsureWords, 4, .inl fC_unsureWords))] → va_S A s.heap H locs → lv_has ls 3 [(2, .int z_127), (0, .ref oC), (1, .int p0)] → W p l e (headSpec (Cond.code yX1_isUnsure cX1_isUnsure 3 (some .boolean) :: wG) ({ frames := 0, cells := 0, slots := 0, locals := 0 })).room s m ([.ref oC, .int p0] : List Value).toArray below meth c H locs 0 0 (MQ below (va_Qi (fun (r : Int32) (_ : Nat) => (r = 0 ∨ r = 1) ∧ True) (fun (_ : Nat) (t : State) => Bw dC dI A [(oC, .inr (1, [.int iC_nodes, .int iC_words, .int iC_chances, .int iC_unsures, .int iC_slips, .int iC_throneNode, .int iC_saidWorth, .int iC_unit, .ref rC_kind, .ref rC_parts, .ref rC_partNodes, .ref rC_weights, .ref rC_weightSums, .ref rC_toldWorths, .ref rC_steps, .ref rC_below, .ref rC_above, .ref rC_unsureWords, .ref rC_unsureWorths])), (rC_unsureWords, .inl (kC_unsureWords, 4, .inl fC_unsureWords))] [(kC_unsureWords, .int)] t) A) ([.ref oC, .int p0] : List Value).toArray s 0 0 A) (F0 m 2 ls []) := by
    intro n_128
    induction n_128 with
    | zero => intro z_127 H locs ls hi0_n_128 hm; exact absurd hm (by omega)
    | succ n_128 ih_n_128 =>
      intro z_127 H locs ls hi0_n_128 hm hP hD hS hl
      have rg_z_127 := fb_rng z_127
      refine lv_iload_n hx hb dX1_isUnsure_2 rfl (lv_at hl 0 rfl) ?_
      refine lv_aload_n hx hb dX1_isUnsure_3 rfl (lv_at hl 1 rfl) ?_
      refine va_get (D := (dC, dI)) (ci := 1) (v := .int iC_unsures) (C := RX1) (T := TX1) (N := 19) hx hb hts inX1 hown hK hP 0 rfl rfl 3 (by decide) (hts _ wd_218) (fun _ h9 => h9) rfl dX1_isUnsure_4 ?_
      have rg_iC_unsures := fb_rng iC_unsures
      refine lv_icmp_ge (tgt := 28) hx hb dX1_isUnsure_7 (by decide) (fun c_129 => ?_) (fun c_129 => ?_)
      · skip
        have gc_129 := ti_le c_129 rfl rfl
        refine lv_iconst (v := 0) hx hb dX1_isUnsure_28 (by decide) ?_
        have hP9 := hP.sub (ws' := [(oC, .inr (1, [.int iC_nodes, .int iC_words, .int iC_chances, .int iC_unsures, .int iC_slips, .int iC_throneNode, .int iC_saidWorth, .int iC_unit, .ref rC_kind, .ref rC_parts, .ref rC_partNodes, .ref rC_weights, .ref rC_weightSums, .ref rC_toldWorths, .ref rC_steps, .ref rC_below, .ref rC_above, .ref rC_unsureWords, .ref rC_unsureWorths])), (rC_unsureWords, .inl (kC_unsureWords, 4, .inl fC_unsureWords))]) [0, 1] rfl
        have hD9 := hD.sub (ws' := [(oC, .inr (1, [.int iC_nodes, .int iC_words, .int iC_chances, .int iC_unsures, .int iC_slips, .int iC_throneNode, .int iC_saidWorth, .int iC_unit, .ref rC_kind, .ref rC_parts, .ref rC_partNodes, .ref rC_weights, .ref rC_weightSums, .ref rC_toldWorths, .ref rC_steps, .ref rC_below, .ref rC_above, .ref rC_unsureWords, .ref rC_unsureWorths])), (rC_unsureWords, .inl (kC_unsureWords, 4, .inl fC_unsureWords))]) [0, 1] (by decide) rfl
        have hK9 := hK.sub (tys' := [(kC_unsureWords, .int)]) [0] rfl
        exact W.zret (v := 0) hx hb hr rfl (fun t ht hW => ⟨⟨_, 0, rfl, ⟨Or.inl rfl, trivial⟩, Bw.to hP9 hD9 hK9 ht hW⟩, hS.F ht⟩) hS.2.2 dX1_isUnsure_29
      · skip
        have gc_129 := ti_nle c_129 rfl rfl
        refine lv_aload_n hx hb dX1_isUnsure_10 rfl (lv_at hl 1 rfl) ?_
        refine va_get (D := (dC, dI)) (ci := 1) (v := .ref rC_unsureWords) (C := RX1) (T := TX1) (N := 19) hx hb hts inX1 hown hK hP 0 rfl rfl 17 (by decide) (hts _ wd_63) (fun _ h9 => h9) rfl dX1_isUnsure_11 ?_
        refine lv_iload_n hx hb dX1_isUnsure_14 rfl (lv_at hl 0 rfl) ?_
        refine va_iald hx hb hK hP 1 0 rfl rfl (ti_in rfl (by omega) (by omega)) dX1_isUnsure_15 ?_
        refine lv_topi (fun x_130 ex_130 => ?_)
        have rg_x_130 := fb_rng x_130
        have kx_130 : (fC_unsureWords z_127.toNatClampNeg).toInt = x_130.toInt := by rw [ex_130]
        have ux_130 := a_fC_unsureWords _ (by have q := ti_cl (x := z_127) rfl (by omega); omega : z_127.toNatClampNeg < 4)
        rw [show fC_unsureWords z_127.toNatClampNeg = x_130 from ex_130.symm] at ux_130
        refine lv_iload_n hx hb dX1_isUnsure_16 rfl (lv_at hl 2 rfl) ?_
        refine lv_icmp_ne (tgt := 22) hx hb dX1_isUnsure_17 (by decide) (fun c_131 => ?_) (fun c_131 => ?_)
        · skip
          have gc_131 := ti_ne c_131 rfl rfl
          obtain ⟨x_132, ex_132⟩ : ∃ z : Int32, z = z_127 + Int32.ofInt 1 := ⟨_, rfl⟩
          have vx_132 : x_132.toInt = z_127.toInt + 1 := by have q := ti_add (y := 1) ex_132 rfl kc_1 (by omega) (by omega); omega
          refine lv_iinc (v := x_132) (lv' := [(2, .int x_132), (0, .ref oC), (1, .int p0)]) hx hb dX1_isUnsure_22 hl (k := 0) rfl ex_132.symm (by decide) rfl (fun ls hl => ?_)
          refine lv_goto (tgt := 2) hx hb dX1_isUnsure_25 (by decide) ?_
          exact ih_n_128 x_132 _ _ _  (by first | omega | decide) (by omega) (hP.sub [0, 1] rfl) (hD.sub [0, 1] (by decide) rfl) hS (lv_sub hl [0, 1, 2] rfl)
        · skip
          have gc_131 := ti_eq c_131 rfl rfl
          refine lv_iconst (v := 1) hx hb dX1_isUnsure_20 (by decide) ?_
          have hP9 := hP.sub (ws' := [(oC, .inr (1, [.int iC_nodes, .int iC_words, .int iC_chances, .int iC_unsures, .int iC_slips, .int iC_throneNode, .int iC_saidWorth, .int iC_unit, .ref rC_kind, .ref rC_parts, .ref rC_partNodes, .ref rC_weights, .ref rC_weightSums, .ref rC_toldWorths, .ref rC_steps, .ref rC_below, .ref rC_above, .ref rC_unsureWords, .ref rC_unsureWorths])), (rC_unsureWords, .inl (kC_unsureWords, 4, .inl fC_unsureWords))]) [0, 1] rfl
          have hD9 := hD.sub (ws' := [(oC, .inr (1, [.int iC_nodes, .int iC_words, .int iC_chances, .int iC_unsures, .int iC_slips, .int iC_throneNode, .int iC_saidWorth, .int iC_unit, .ref rC_kind, .ref rC_parts, .ref rC_partNodes, .ref rC_weights, .ref rC_weightSums, .ref rC_toldWorths, .ref rC_steps, .ref rC_below, .ref rC_above, .ref rC_unsureWords, .ref rC_unsureWorths])), (rC_unsureWords, .inl (kC_unsureWords, 4, .inl fC_unsureWords))]) [0, 1] (by decide) rfl
          have hK9 := hK.sub (tys' := [(kC_unsureWords, .int)]) [0] rfl
          exact W.zret (v := 1) hx hb hr rfl (fun t ht hW => ⟨⟨_, 0, rfl, ⟨Or.inr rfl, trivial⟩, Bw.to hP9 hD9 hK9 ht hW⟩, hS.F ht⟩) hS.2.2 dX1_isUnsure_21
  exact key_n_128 ((2147483647 - (0 : Int32).toInt).toNat + 1) 0 _ _ _  (by first | omega | decide) (by omega) hP hD hS hl
set_option maxHeartbeats 4000000 in
set_option maxRecDepth 100000 in
theorem tX1_addPart (l : Launch) (dC : Nat → ClassId) (dI : Nat → Nat → Nat) (sz : Nat) (oC : Nat) (iC_nodes : Int32) (iC_words : Int32) (iC_chances : Int32) (iC_unsures : Int32) (iC_slips : Int32) (iC_throneNode : Int32) (iC_saidWorth : Int32) (iC_unit : Int32) (rC_kind : Nat) (rC_parts : Nat) (fC_parts : Nat → Int32) (kC_parts : ClassId) (rC_partNodes : Nat) (fC_partNodes : Nat → Int32) (kC_partNodes : ClassId) (rC_weights : Nat) (fC_weights : Nat → Int32) (kC_weights : ClassId) (rC_weightSums : Nat) (fC_weightSums : Nat → Int32) (kC_weightSums : ClassId) (rC_toldWorths : Nat) (rC_steps : Nat) (fC_steps : Nat → Int32) (kC_steps : ClassId) (rC_below : Nat) (fC_below : Nat → Int32) (kC_below : ClassId) (rC_above : Nat) (fC_above : Nat → Int32) (kC_above : ClassId) (rC_unsureWords : Nat) (rC_unsureWorths : Nat) (p0 : Int32) (p1 : Int32) (b_iC_nodes : 0 ≤ iC_nodes.toInt ∧ iC_nodes.toInt ≤ 18) (b_iC_unsures : 0 ≤ iC_unsures.toInt ∧ iC_unsures.toInt ≤ 4) (a_fC_parts : ∀ j : Nat, j < 18 → 0 ≤ (fC_parts j).toInt ∧ (fC_parts j).toInt ≤ 4) (a_fC_partNodes : ∀ j : Nat, j < 72 → 0 ≤ (fC_partNodes j).toInt ∧ (fC_partNodes j).toInt ≤ 17)  : Met l yX1_addPart (Cond.code yX1_addPart cX1_addPart 4 none :: wG) ({ frames := 1, cells := 0, slots := 0, locals := 29 }) (va_Pc [.ref oC, .int p0, .int p1] (Pw dC dI sz [(oC, .inr (1, [.int iC_nodes, .int iC_words, .int iC_chances, .int iC_unsures, .int iC_slips, .int iC_throneNode, .int iC_saidWorth, .int iC_unit, .ref rC_kind, .ref rC_parts, .ref rC_partNodes, .ref rC_weights, .ref rC_weightSums, .ref rC_toldWorths, .ref rC_steps, .ref rC_below, .ref rC_above, .ref rC_unsureWords, .ref rC_unsureWorths])), (rC_parts, .inl (kC_parts, 18, .inl fC_parts)), (rC_partNodes, .inl (kC_partNodes, 72, .inl fC_partNodes)), (rC_weights, .inl (kC_weights, 72, .inl fC_weights)), (rC_weightSums, .inl (kC_weightSums, 18, .inl fC_weightSums)), (rC_steps, .inl (kC_steps, 18, .inl fC_steps)), (rC_below, .inl (kC_below, 18, .inl fC_below)), (rC_above, .inl (kC_above, 18, .inl fC_above))] [(kC_parts, .int), (kC_partNodes, .int), (kC_weights, .int), (kC_weightSums, .int), (kC_steps, .int), (kC_below, .int), (kC_above, .int)])) (va_Qv (fun (_ : Nat) => True) (fun (_ : Nat) (t : State) => ∃ (nfC_parts : Nat → Int32) (nfC_partNodes : Nat → Int32) (nfC_weights : Nat → Int32) (nfC_weightSums : Nat → Int32) (nfC_steps : Nat → Int32) (nfC_below : Nat → Int32) (nfC_above : Nat → Int32), (∀ j : Nat, j < 18 → 0 ≤ (nfC_parts j).toInt ∧ (nfC_parts j).toInt ≤ 4) ∧ (∀ j : Nat, j < 72 → 0 ≤ (nfC_partNodes j).toInt ∧ (nfC_partNodes j).toInt ≤ 17) ∧ Bw dC dI (va_A [(oC, .inr (1, [.int iC_nodes, .int iC_words, .int iC_chances, .int iC_unsures, .int iC_slips, .int iC_throneNode, .int iC_saidWorth, .int iC_unit, .ref rC_kind, .ref rC_parts, .ref rC_partNodes, .ref rC_weights, .ref rC_weightSums, .ref rC_toldWorths, .ref rC_steps, .ref rC_below, .ref rC_above, .ref rC_unsureWords, .ref rC_unsureWorths])), (rC_parts, .inl (kC_parts, 18, .inl fC_parts)), (rC_partNodes, .inl (kC_partNodes, 72, .inl fC_partNodes)), (rC_weights, .inl (kC_weights, 72, .inl fC_weights)), (rC_weightSums, .inl (kC_weightSums, 18, .inl fC_weightSums)), (rC_steps, .inl (kC_steps, 18, .inl fC_steps)), (rC_below, .inl (kC_below, 18, .inl fC_below)), (rC_above, .inl (kC_above, 18, .inl fC_above))] sz) [(oC, .inr (1, [.int iC_nodes, .int iC_words, .int iC_chances, .int iC_unsures, .int iC_slips, .int iC_throneNode, .int iC_saidWorth, .int iC_unit, .ref rC_kind, .ref rC_parts, .ref rC_partNodes, .ref rC_weights, .ref rC_weightSums, .ref rC_toldWorths, .ref rC_steps, .ref rC_below, .ref rC_above, .ref rC_unsureWords, .ref rC_unsureWorths])), (rC_parts, .inl (kC_parts, 18, .inl nfC_parts)), (rC_partNodes, .inl (kC_partNodes, 72, .inl nfC_partNodes)), (rC_weights, .inl (kC_weights, 72, .inl nfC_weights)), (rC_weightSums, .inl (kC_weightSums, 18, .inl nfC_weightSums)), (rC_steps, .inl (kC_steps, 18, .inl nfC_steps)), (rC_below, .inl (kC_below, 18, .inl nfC_below)), (rC_above, .inl (kC_above, 18, .inl nfC_above))] [(kC_parts, .int), (kC_partNodes, .int), (kC_weights, .int), (kC_weightSums, .int), (kC_steps, .int), (kC_below, .int), (kC_above, .int)] t) (va_A [(oC, .inr (1, [.int iC_nodes, .int iC_words, .int iC_chances, .int iC_unsures, .int iC_slips, .int iC_throneNode, .int iC_saidWorth, .int iC_unit, .ref rC_kind, .ref rC_parts, .ref rC_partNodes, .ref rC_weights, .ref rC_weightSums, .ref rC_toldWorths, .ref rC_steps, .ref rC_below, .ref rC_above, .ref rC_unsureWords, .ref rC_unsureWorths])), (rC_parts, .inl (kC_parts, 18, .inl fC_parts)), (rC_partNodes, .inl (kC_partNodes, 72, .inl fC_partNodes)), (rC_weights, .inl (kC_weights, 72, .inl fC_weights)), (rC_weightSums, .inl (kC_weightSums, 18, .inl fC_weightSums)), (rC_steps, .inl (kC_steps, 18, .inl fC_steps)), (rC_below, .inl (kC_below, 18, .inl fC_below)), (rC_above, .inl (kC_above, 18, .inl fC_above))] sz)) 0 0 (va_A [(oC, .inr (1, [.int iC_nodes, .int iC_words, .int iC_chances, .int iC_unsures, .int iC_slips, .int iC_throneNode, .int iC_saidWorth, .int iC_unit, .ref rC_kind, .ref rC_parts, .ref rC_partNodes, .ref rC_weights, .ref rC_weightSums, .ref rC_toldWorths, .ref rC_steps, .ref rC_below, .ref rC_above, .ref rC_unsureWords, .ref rC_unsureWorths])), (rC_parts, .inl (kC_parts, 18, .inl fC_parts)), (rC_partNodes, .inl (kC_partNodes, 72, .inl fC_partNodes)), (rC_weights, .inl (kC_weights, 72, .inl fC_weights)), (rC_weightSums, .inl (kC_weightSums, 18, .inl fC_weightSums)), (rC_steps, .inl (kC_steps, 18, .inl fC_steps)), (rC_below, .inl (kC_below, 18, .inl fC_below)), (rC_above, .inl (kC_above, 18, .inl fC_above))] sz) := by
  refine Met.ofW (cc := cX1_addPart) (maxL := 4) (ret := none) (by decide) rfl ?_
  intro p e s m args below meth c s₁ B hml hv
  obtain ⟨rfl, hsz, hP, hK, hD0, hE⟩ := hv
  have hx := B.exec
  have hb := B.bytes
  have hr := B.returns
  have hts : ∀ w ∈ wG, w.before ([.ref oC, .int p0, .int p1] : List Value).toArray s = true := fun w h => atoms_spec (ws := Cond.code yX1_addPart cX1_addPart 4 none :: wG) B.pre w (List.mem_cons_of_mem _ h)
  have hown : s.vm.findClass RX1 = some m.cls := findClass_of_methodNamed B.named
  have hlocks := B.notSynchronized
  subst hsz
  have hD := hD0.self (sz := s.heap.size)
  generalize hAe : va_A [(oC, .inr (1, [.int iC_nodes, .int iC_words, .int iC_chances, .int iC_unsures, .int iC_slips, .int iC_throneNode, .int iC_saidWorth, .int iC_unit, .ref rC_kind, .ref rC_parts, .ref rC_partNodes, .ref rC_weights, .ref rC_weightSums, .ref rC_toldWorths, .ref rC_steps, .ref rC_below, .ref rC_above, .ref rC_unsureWords, .ref rC_unsureWorths])), (rC_parts, .inl (kC_parts, 18, .inl fC_parts)), (rC_partNodes, .inl (kC_partNodes, 72, .inl fC_partNodes)), (rC_weights, .inl (kC_weights, 72, .inl fC_weights)), (rC_weightSums, .inl (kC_weightSums, 18, .inl fC_weightSums)), (rC_steps, .inl (kC_steps, 18, .inl fC_steps)), (rC_below, .inl (kC_below, 18, .inl fC_below)), (rC_above, .inl (kC_above, 18, .inl fC_above))] s.heap.size = A at hD hE ⊢
  have hA : ∀ q : Nat, s.heap.size ≤ q → A q := fun q h => by rw [← hAe]; exact Or.inr h
  have hS : va_S A s.heap s.heap [] := va_S.rf
  have hl := lv_entry ([.ref oC, .int p0, .int p1]) (n := 4) (Nat.le_of_ble_eq_true rfl)
  rw [lg_entry_eq]
  generalize (lg_sl ([.ref oC, .int p0, .int p1]) ++ List.replicate (4 - (lg_sl ([.ref oC, .int p0, .int p1])).length) Slot.unset).toArray = ls at hl ⊢
  have hl : lv_has ls 4 [(0, .ref oC), (1, .int p0), (2, .int p1)] := hl
  have rg_p0 := fb_rng p0
  have rg_p1 := fb_rng p1
  refine lv_aload_n hx hb dX1_addPart_0 rfl (lv_at hl 0 rfl) ?_
  have hPc := hP.sub (ws' := [(oC, .inr (1, [.int iC_nodes, .int iC_words, .int iC_chances, .int iC_unsures, .int iC_slips, .int iC_throneNode, .int iC_saidWorth, .int iC_unit, .ref rC_kind, .ref rC_parts, .ref rC_partNodes, .ref rC_weights, .ref rC_weightSums, .ref rC_toldWorths, .ref rC_steps, .ref rC_below, .ref rC_above, .ref rC_unsureWords, .ref rC_unsureWorths])), (rC_parts, .inl (kC_parts, 18, .inl fC_parts))]) [0, 1] rfl
  have hDc := hD.sub (ws' := [(oC, .inr (1, [.int iC_nodes, .int iC_words, .int iC_chances, .int iC_unsures, .int iC_slips, .int iC_throneNode, .int iC_saidWorth, .int iC_unit, .ref rC_kind, .ref rC_parts, .ref rC_partNodes, .ref rC_weights, .ref rC_weightSums, .ref rC_toldWorths, .ref rC_steps, .ref rC_below, .ref rC_above, .ref rC_unsureWords, .ref rC_unsureWorths])), (rC_parts, .inl (kC_parts, 18, .inl fC_parts))]) [0, 1] (by decide) rfl
  have hKc := hK.sub (tys' := [(kC_parts, .int)]) [0] rfl
  have hFc := va_free (wc := [(oC, .inr (1, [.int iC_nodes, .int iC_words, .int iC_chances, .int iC_unsures, .int iC_slips, .int iC_throneNode, .int iC_saidWorth, .int iC_unit, .ref rC_kind, .ref rC_parts, .ref rC_partNodes, .ref rC_weights, .ref rC_weightSums, .ref rC_toldWorths, .ref rC_steps, .ref rC_below, .ref rC_above, .ref rC_unsureWords, .ref rC_unsureWorths])), (rC_parts, .inl (kC_parts, 18, .inl fC_parts))]) hD hS hA [0, 1] rfl
  refine va_calli (va_runV (As := []) (rest := []) ⟨hx, hb, hml, hown, hts⟩ (tX1_hasRoomForPart l dC dI _ oC iC_nodes iC_words iC_chances iC_unsures iC_slips iC_throneNode iC_saidWorth iC_unit rC_kind rC_parts fC_parts kC_parts rC_partNodes rC_weights rC_weightSums rC_toldWorths rC_steps rC_below rC_above rC_unsureWords rC_unsureWorths (by first | omega | decide) (by first | omega | decide) a_fC_parts) (cwV 0 hts (wd_V wd_324 wd_313 wd_314 wd_19 (wd_c wd_315)) rfl rfl rfl (by decide +kernel) ⟨Nat.le_of_ble_eq_true rfl, Nat.le_of_ble_eq_true rfl⟩) ⟨Pw.fb, va_recv hKc hPc (ci := 1) (q0 := 0) rfl rfl, fun U hU hW => Pw.to hPc hDc hKc hE hS hFc hU hW⟩ rfl rfl hl.1 rfl (lv_room (Nat.le_of_ble_eq_true rfl)) dX1_addPart_1 ⟨Nat.le_of_ble_eq_true rfl, Nat.le_of_ble_eq_true rfl⟩) hS (fun q _ h => hFc q h) hFc (fun r u t H locs ht hvm hw hB hz1 hk1 hS => ?_)
  obtain ⟨hP, hD, hK⟩ := Bw.back (wc := [(oC, .inr (1, [.int iC_nodes, .int iC_words, .int iC_chances, .int iC_unsures, .int iC_slips, .int iC_throneNode, .int iC_saidWorth, .int iC_unit, .ref rC_kind, .ref rC_parts, .ref rC_partNodes, .ref rC_weights, .ref rC_weightSums, .ref rC_toldWorths, .ref rC_steps, .ref rC_below, .ref rC_above, .ref rC_unsureWords, .ref rC_unsureWorths])), (rC_parts, .inl (kC_parts, 18, .inl fC_parts))]) (wr := [(rC_partNodes, .inl (kC_partNodes, 72, .inl fC_partNodes)), (rC_weights, .inl (kC_weights, 72, .inl fC_weights)), (rC_weightSums, .inl (kC_weightSums, 18, .inl fC_weightSums)), (rC_steps, .inl (kC_steps, 18, .inl fC_steps)), (rC_below, .inl (kC_below, 18, .inl fC_below)), (rC_above, .inl (kC_above, 18, .inl fC_above))]) (tyr := [(kC_partNodes, .int), (kC_weights, .int), (kC_weightSums, .int), (kC_steps, .int), (kC_below, .int), (kC_above, .int)]) hB rfl ht hvm hP hD hK [0, 1] [2, 3, 4, 5, 6, 7] rfl rfl (by decide) (by decide) [1, 2, 3, 4, 5, 6] rfl hk1 hFc
  have hP : va_P (dC, dI) vwCl [(rC_partNodes, .inl (kC_partNodes, 72, .inl fC_partNodes)), (rC_weights, .inl (kC_weights, 72, .inl fC_weights)), (rC_weightSums, .inl (kC_weightSums, 18, .inl fC_weightSums)), (rC_steps, .inl (kC_steps, 18, .inl fC_steps)), (rC_below, .inl (kC_below, 18, .inl fC_below)), (rC_above, .inl (kC_above, 18, .inl fC_above)), (oC, .inr (1, [.int iC_nodes, .int iC_words, .int iC_chances, .int iC_unsures, .int iC_slips, .int iC_throneNode, .int iC_saidWorth, .int iC_unit, .ref rC_kind, .ref rC_parts, .ref rC_partNodes, .ref rC_weights, .ref rC_weightSums, .ref rC_toldWorths, .ref rC_steps, .ref rC_below, .ref rC_above, .ref rC_unsureWords, .ref rC_unsureWorths])), (rC_parts, .inl (kC_parts, 18, .inl fC_parts))] H := hP
  have hD : va_D A [(rC_partNodes, .inl (kC_partNodes, 72, .inl fC_partNodes)), (rC_weights, .inl (kC_weights, 72, .inl fC_weights)), (rC_weightSums, .inl (kC_weightSums, 18, .inl fC_weightSums)), (rC_steps, .inl (kC_steps, 18, .inl fC_steps)), (rC_below, .inl (kC_below, 18, .inl fC_below)), (rC_above, .inl (kC_above, 18, .inl fC_above)), (oC, .inr (1, [.int iC_nodes, .int iC_words, .int iC_chances, .int iC_unsures, .int iC_slips, .int iC_throneNode, .int iC_saidWorth, .int iC_unit, .ref rC_kind, .ref rC_parts, .ref rC_partNodes, .ref rC_weights, .ref rC_weightSums, .ref rC_toldWorths, .ref rC_steps, .ref rC_below, .ref rC_above, .ref rC_unsureWords, .ref rC_unsureWorths])), (rC_parts, .inl (kC_parts, 18, .inl fC_parts))] := hD
  have hK : va_K (dC, dI) vwCl [(kC_partNodes, .int), (kC_weights, .int), (kC_weightSums, .int), (kC_steps, .int), (kC_below, .int), (kC_above, .int), (kC_parts, .int)] s := hK
  rcases hw.2 with ⟨rfl, hc_163⟩ | ⟨rfl, hc_163⟩
  · skip
    have rg_iC_nodes := fb_rng iC_nodes
    refine lv_if_eq (tgt := 134) hx hb dX1_addPart_4 (by decide) (fun c => absurd c (by decide)) (fun _ => ?_)
    refine lv_aload_n hx hb dX1_addPart_7 rfl (lv_at hl 0 rfl) ?_
    refine lv_iload_n hx hb dX1_addPart_8 rfl (lv_at hl 1 rfl) ?_
    have hPc := hP.sub (ws' := [(oC, .inr (1, [.int iC_nodes, .int iC_words, .int iC_chances, .int iC_unsures, .int iC_slips, .int iC_throneNode, .int iC_saidWorth, .int iC_unit, .ref rC_kind, .ref rC_parts, .ref rC_partNodes, .ref rC_weights, .ref rC_weightSums, .ref rC_toldWorths, .ref rC_steps, .ref rC_below, .ref rC_above, .ref rC_unsureWords, .ref rC_unsureWorths]))]) [6] rfl
    have hDc := hD.sub (ws' := [(oC, .inr (1, [.int iC_nodes, .int iC_words, .int iC_chances, .int iC_unsures, .int iC_slips, .int iC_throneNode, .int iC_saidWorth, .int iC_unit, .ref rC_kind, .ref rC_parts, .ref rC_partNodes, .ref rC_weights, .ref rC_weightSums, .ref rC_toldWorths, .ref rC_steps, .ref rC_below, .ref rC_above, .ref rC_unsureWords, .ref rC_unsureWorths]))]) [6] (by decide) rfl
    have hKc := hK.sub (tys' := []) [] rfl
    have hFc := va_free (wc := [(oC, .inr (1, [.int iC_nodes, .int iC_words, .int iC_chances, .int iC_unsures, .int iC_slips, .int iC_throneNode, .int iC_saidWorth, .int iC_unit, .ref rC_kind, .ref rC_parts, .ref rC_partNodes, .ref rC_weights, .ref rC_weightSums, .ref rC_toldWorths, .ref rC_steps, .ref rC_below, .ref rC_above, .ref rC_unsureWords, .ref rC_unsureWorths]))]) hD hS hA [6] rfl
    refine va_calli (va_runV (As := [.int p0]) (rest := []) ⟨hx, hb, hml, hown, hts⟩ (tX1_hasNode l dC dI _ oC iC_nodes iC_words iC_chances iC_unsures iC_slips iC_throneNode iC_saidWorth iC_unit rC_kind rC_parts rC_partNodes rC_weights rC_weightSums rC_toldWorths rC_steps rC_below rC_above rC_unsureWords rC_unsureWorths p0 (by first | omega | decide) (by first | omega | decide)) (cwV 1 hts (wd_V wd_325 wd_326 wd_327 wd_19 (wd_c wd_328)) rfl rfl rfl (by decide +kernel) ⟨Nat.le_of_ble_eq_true rfl, Nat.le_of_ble_eq_true rfl⟩) ⟨Pw.fb, va_recv hKc hPc (ci := 1) (q0 := 0) rfl rfl, fun U hU hW => Pw.to hPc hDc hKc hE hS hFc hU hW⟩ rfl rfl hl.1 rfl (lv_room (Nat.le_of_ble_eq_true rfl)) dX1_addPart_9 ⟨Nat.le_of_ble_eq_true rfl, Nat.le_of_ble_eq_true rfl⟩) hS (fun q _ h => hFc q h) hFc (fun r u t H locs ht hvm hw hB hz1 hk1 hS => ?_)
    obtain ⟨hP, hD, hK⟩ := Bw.back (wc := [(oC, .inr (1, [.int iC_nodes, .int iC_words, .int iC_chances, .int iC_unsures, .int iC_slips, .int iC_throneNode, .int iC_saidWorth, .int iC_unit, .ref rC_kind, .ref rC_parts, .ref rC_partNodes, .ref rC_weights, .ref rC_weightSums, .ref rC_toldWorths, .ref rC_steps, .ref rC_below, .ref rC_above, .ref rC_unsureWords, .ref rC_unsureWorths]))]) (wr := [(rC_partNodes, .inl (kC_partNodes, 72, .inl fC_partNodes)), (rC_weights, .inl (kC_weights, 72, .inl fC_weights)), (rC_weightSums, .inl (kC_weightSums, 18, .inl fC_weightSums)), (rC_steps, .inl (kC_steps, 18, .inl fC_steps)), (rC_below, .inl (kC_below, 18, .inl fC_below)), (rC_above, .inl (kC_above, 18, .inl fC_above)), (rC_parts, .inl (kC_parts, 18, .inl fC_parts))]) (tyr := [(kC_partNodes, .int), (kC_weights, .int), (kC_weightSums, .int), (kC_steps, .int), (kC_below, .int), (kC_above, .int), (kC_parts, .int)]) hB rfl ht hvm hP hD hK [6] [0, 1, 2, 3, 4, 5, 7] rfl rfl (by decide) (by decide) [0, 1, 2, 3, 4, 5, 6] rfl hk1 hFc
    have hP : va_P (dC, dI) vwCl [(rC_partNodes, .inl (kC_partNodes, 72, .inl fC_partNodes)), (rC_weights, .inl (kC_weights, 72, .inl fC_weights)), (rC_weightSums, .inl (kC_weightSums, 18, .inl fC_weightSums)), (rC_steps, .inl (kC_steps, 18, .inl fC_steps)), (rC_below, .inl (kC_below, 18, .inl fC_below)), (rC_above, .inl (kC_above, 18, .inl fC_above)), (rC_parts, .inl (kC_parts, 18, .inl fC_parts)), (oC, .inr (1, [.int iC_nodes, .int iC_words, .int iC_chances, .int iC_unsures, .int iC_slips, .int iC_throneNode, .int iC_saidWorth, .int iC_unit, .ref rC_kind, .ref rC_parts, .ref rC_partNodes, .ref rC_weights, .ref rC_weightSums, .ref rC_toldWorths, .ref rC_steps, .ref rC_below, .ref rC_above, .ref rC_unsureWords, .ref rC_unsureWorths]))] H := hP
    have hD : va_D A [(rC_partNodes, .inl (kC_partNodes, 72, .inl fC_partNodes)), (rC_weights, .inl (kC_weights, 72, .inl fC_weights)), (rC_weightSums, .inl (kC_weightSums, 18, .inl fC_weightSums)), (rC_steps, .inl (kC_steps, 18, .inl fC_steps)), (rC_below, .inl (kC_below, 18, .inl fC_below)), (rC_above, .inl (kC_above, 18, .inl fC_above)), (rC_parts, .inl (kC_parts, 18, .inl fC_parts)), (oC, .inr (1, [.int iC_nodes, .int iC_words, .int iC_chances, .int iC_unsures, .int iC_slips, .int iC_throneNode, .int iC_saidWorth, .int iC_unit, .ref rC_kind, .ref rC_parts, .ref rC_partNodes, .ref rC_weights, .ref rC_weightSums, .ref rC_toldWorths, .ref rC_steps, .ref rC_below, .ref rC_above, .ref rC_unsureWords, .ref rC_unsureWorths]))] := hD
    have hK : va_K (dC, dI) vwCl [(kC_partNodes, .int), (kC_weights, .int), (kC_weightSums, .int), (kC_steps, .int), (kC_below, .int), (kC_above, .int), (kC_parts, .int)] s := hK
    rcases hw.2 with ⟨rfl, hc_165⟩ | ⟨rfl, hc_165⟩
    · skip
      refine lv_if_eq (tgt := 134) hx hb dX1_addPart_12 (by decide) (fun c => absurd c (by decide)) (fun _ => ?_)
      refine lv_aload_n hx hb dX1_addPart_15 rfl (lv_at hl 0 rfl) ?_
      refine va_get (D := (dC, dI)) (ci := 1) (v := .int iC_nodes) (C := RX1) (T := TX1) (N := 19) hx hb hts inX1 hown hK hP 7 rfl rfl 0 (by decide) (hts _ wd_215) (fun _ h9 => h9) rfl dX1_addPart_16 ?_
      refine lv_iconst (v := 4) hx hb dX1_addPart_19 (by decide) ?_
      refine lv_imul hx hb dX1_addPart_20 ?_
      refine lv_topi (fun x_167 ex_167 => ?_)
      have vx_167 : x_167.toInt = 4 * iC_nodes.toInt := by have q := ti_mul ex_167 rfl kc_4 (by omega) (by omega); omega
      refine lv_aload_n hx hb dX1_addPart_21 rfl (lv_at hl 0 rfl) ?_
      refine va_get (D := (dC, dI)) (ci := 1) (v := .ref rC_parts) (C := RX1) (T := TX1) (N := 19) hx hb hts inX1 hown hK hP 7 rfl rfl 9 (by decide) (hts _ wd_55) (fun _ h9 => h9) rfl dX1_addPart_22 ?_
      refine lv_aload_n hx hb dX1_addPart_25 rfl (lv_at hl 0 rfl) ?_
      refine va_get (D := (dC, dI)) (ci := 1) (v := .int iC_nodes) (C := RX1) (T := TX1) (N := 19) hx hb hts inX1 hown hK hP 7 rfl rfl 0 (by decide) (hts _ wd_215) (fun _ h9 => h9) rfl dX1_addPart_26 ?_
      refine va_iald hx hb hK hP 6 6 rfl rfl (ti_in rfl (by omega) (by omega)) dX1_addPart_29 ?_
      refine lv_topi (fun x_168 ex_168 => ?_)
      have rg_x_168 := fb_rng x_168
      have kx_168 : (fC_parts iC_nodes.toNatClampNeg).toInt = x_168.toInt := by rw [ex_168]
      have ux_168 := a_fC_parts _ (by have q := ti_cl (x := iC_nodes) rfl (by omega); omega : iC_nodes.toNatClampNeg < 18)
      rw [show fC_parts iC_nodes.toNatClampNeg = x_168 from ex_168.symm] at ux_168
      refine lv_iadd hx hb dX1_addPart_30 ?_
      refine lv_topi (fun x_169 ex_169 => ?_)
      have vx_169 : x_169.toInt = 4 * iC_nodes.toInt + x_168.toInt := by have q := ti_add ex_169 vx_167 rfl (by omega) (by omega); omega
      refine lv_istore_n (lv' := [(3, .int x_169), (0, .ref oC), (1, .int p0), (2, .int p1)]) hx hb dX1_addPart_31 rfl hl (by decide) rfl (fun ls hl => ?_)
      refine lv_aload_n hx hb dX1_addPart_32 rfl (lv_at hl 1 rfl) ?_
      refine va_get (D := (dC, dI)) (ci := 1) (v := .ref rC_partNodes) (C := RX1) (T := TX1) (N := 19) hx hb hts inX1 hown hK hP 7 rfl rfl 10 (by decide) (hts _ wd_56) (fun _ h9 => h9) rfl dX1_addPart_33 ?_
      refine lv_iload_n hx hb dX1_addPart_36 rfl (lv_at hl 0 rfl) ?_
      refine lv_iload_n hx hb dX1_addPart_37 rfl (lv_at hl 2 rfl) ?_
      refine vi_iast (lo := 0) (hi := 17) hx hb hK hP hD hS 0 0 rfl rfl (ti_in vx_169 (by omega) (by omega)) a_fC_partNodes (by omega) dX1_addPart_38 (fun H locs f_170 a_f_170 hP hD hS => ?_)
      have hP : va_P (dC, dI) vwCl [(rC_partNodes, .inl (kC_partNodes, 72, .inl f_170)), (rC_weights, .inl (kC_weights, 72, .inl fC_weights)), (rC_weightSums, .inl (kC_weightSums, 18, .inl fC_weightSums)), (rC_steps, .inl (kC_steps, 18, .inl fC_steps)), (rC_below, .inl (kC_below, 18, .inl fC_below)), (rC_above, .inl (kC_above, 18, .inl fC_above)), (rC_parts, .inl (kC_parts, 18, .inl fC_parts)), (oC, .inr (1, [.int iC_nodes, .int iC_words, .int iC_chances, .int iC_unsures, .int iC_slips, .int iC_throneNode, .int iC_saidWorth, .int iC_unit, .ref rC_kind, .ref rC_parts, .ref rC_partNodes, .ref rC_weights, .ref rC_weightSums, .ref rC_toldWorths, .ref rC_steps, .ref rC_below, .ref rC_above, .ref rC_unsureWords, .ref rC_unsureWorths]))] H := hP
      have hD : va_D A [(rC_partNodes, .inl (kC_partNodes, 72, .inl f_170)), (rC_weights, .inl (kC_weights, 72, .inl fC_weights)), (rC_weightSums, .inl (kC_weightSums, 18, .inl fC_weightSums)), (rC_steps, .inl (kC_steps, 18, .inl fC_steps)), (rC_below, .inl (kC_below, 18, .inl fC_below)), (rC_above, .inl (kC_above, 18, .inl fC_above)), (rC_parts, .inl (kC_parts, 18, .inl fC_parts)), (oC, .inr (1, [.int iC_nodes, .int iC_words, .int iC_chances, .int iC_unsures, .int iC_slips, .int iC_throneNode, .int iC_saidWorth, .int iC_unit, .ref rC_kind, .ref rC_parts, .ref rC_partNodes, .ref rC_weights, .ref rC_weightSums, .ref rC_toldWorths, .ref rC_steps, .ref rC_below, .ref rC_above, .ref rC_unsureWords, .ref rC_unsureWorths]))] := hD
      refine lv_aload_n hx hb dX1_addPart_39 rfl (lv_at hl 1 rfl) ?_
      refine va_get (D := (dC, dI)) (ci := 1) (v := .ref rC_weights) (C := RX1) (T := TX1) (N := 19) hx hb hts inX1 hown hK hP 7 rfl rfl 11 (by decide) (hts _ wd_57) (fun _ h9 => h9) rfl dX1_addPart_40 ?_
      refine lv_iload_n hx hb dX1_addPart_43 rfl (lv_at hl 0 rfl) ?_
      refine lv_iload_n hx hb dX1_addPart_44 rfl (lv_at hl 3 rfl) ?_
      refine vz_iast hx hb hK hP hD hS 1 1 rfl rfl (ti_in vx_169 (by omega) (by omega)) dX1_addPart_45 (fun H locs f_171 hP hD hS => ?_)
      have hP : va_P (dC, dI) vwCl [(rC_partNodes, .inl (kC_partNodes, 72, .inl f_170)), (rC_weights, .inl (kC_weights, 72, .inl f_171)), (rC_weightSums, .inl (kC_weightSums, 18, .inl fC_weightSums)), (rC_steps, .inl (kC_steps, 18, .inl fC_steps)), (rC_below, .inl (kC_below, 18, .inl fC_below)), (rC_above, .inl (kC_above, 18, .inl fC_above)), (rC_parts, .inl (kC_parts, 18, .inl fC_parts)), (oC, .inr (1, [.int iC_nodes, .int iC_words, .int iC_chances, .int iC_unsures, .int iC_slips, .int iC_throneNode, .int iC_saidWorth, .int iC_unit, .ref rC_kind, .ref rC_parts, .ref rC_partNodes, .ref rC_weights, .ref rC_weightSums, .ref rC_toldWorths, .ref rC_steps, .ref rC_below, .ref rC_above, .ref rC_unsureWords, .ref rC_unsureWorths]))] H := hP
      have hD : va_D A [(rC_partNodes, .inl (kC_partNodes, 72, .inl f_170)), (rC_weights, .inl (kC_weights, 72, .inl f_171)), (rC_weightSums, .inl (kC_weightSums, 18, .inl fC_weightSums)), (rC_steps, .inl (kC_steps, 18, .inl fC_steps)), (rC_below, .inl (kC_below, 18, .inl fC_below)), (rC_above, .inl (kC_above, 18, .inl fC_above)), (rC_parts, .inl (kC_parts, 18, .inl fC_parts)), (oC, .inr (1, [.int iC_nodes, .int iC_words, .int iC_chances, .int iC_unsures, .int iC_slips, .int iC_throneNode, .int iC_saidWorth, .int iC_unit, .ref rC_kind, .ref rC_parts, .ref rC_partNodes, .ref rC_weights, .ref rC_weightSums, .ref rC_toldWorths, .ref rC_steps, .ref rC_below, .ref rC_above, .ref rC_unsureWords, .ref rC_unsureWorths]))] := hD
      refine lv_aload_n hx hb dX1_addPart_46 rfl (lv_at hl 1 rfl) ?_
      refine va_get (D := (dC, dI)) (ci := 1) (v := .ref rC_parts) (C := RX1) (T := TX1) (N := 19) hx hb hts inX1 hown hK hP 7 rfl rfl 9 (by decide) (hts _ wd_55) (fun _ h9 => h9) rfl dX1_addPart_47 ?_
      refine lv_aload_n hx hb dX1_addPart_50 rfl (lv_at hl 1 rfl) ?_
      refine va_get (D := (dC, dI)) (ci := 1) (v := .int iC_nodes) (C := RX1) (T := TX1) (N := 19) hx hb hts inX1 hown hK hP 7 rfl rfl 0 (by decide) (hts _ wd_215) (fun _ h9 => h9) rfl dX1_addPart_51 ?_
      refine lv_dup2_11 hx hb dX1_addPart_54 rfl rfl ?_
      refine va_iald hx hb hK hP 6 6 rfl rfl (ti_in rfl (by omega) (by omega)) dX1_addPart_55 ?_
      refine lv_topi (fun x_172 ex_172 => ?_)
      have rg_x_172 := fb_rng x_172
      have kx_172 : (fC_parts iC_nodes.toNatClampNeg).toInt = x_172.toInt := by rw [ex_172]
      have ux_172 := a_fC_parts _ (by have q := ti_cl (x := iC_nodes) rfl (by omega); omega : iC_nodes.toNatClampNeg < 18)
      rw [show fC_parts iC_nodes.toNatClampNeg = x_172 from ex_172.symm] at ux_172
      refine lv_iconst (v := 1) hx hb dX1_addPart_56 (by decide) ?_
      refine lv_iadd hx hb dX1_addPart_57 ?_
      refine lv_topi (fun x_173 ex_173 => ?_)
      have vx_173 : x_173.toInt = x_172.toInt + 1 := by have q := ti_add ex_173 rfl kc_1 (by omega) (by omega); omega
      refine vi_iast (lo := 0) (hi := 4) hx hb hK hP hD hS 6 6 rfl rfl (ti_in rfl (by omega) (by omega)) a_fC_parts (by have q := vx_173; omega) dX1_addPart_58 (fun H locs f_174 a_f_174 hP hD hS => ?_)
      have hP : va_P (dC, dI) vwCl [(rC_partNodes, .inl (kC_partNodes, 72, .inl f_170)), (rC_weights, .inl (kC_weights, 72, .inl f_171)), (rC_weightSums, .inl (kC_weightSums, 18, .inl fC_weightSums)), (rC_steps, .inl (kC_steps, 18, .inl fC_steps)), (rC_below, .inl (kC_below, 18, .inl fC_below)), (rC_above, .inl (kC_above, 18, .inl fC_above)), (rC_parts, .inl (kC_parts, 18, .inl f_174)), (oC, .inr (1, [.int iC_nodes, .int iC_words, .int iC_chances, .int iC_unsures, .int iC_slips, .int iC_throneNode, .int iC_saidWorth, .int iC_unit, .ref rC_kind, .ref rC_parts, .ref rC_partNodes, .ref rC_weights, .ref rC_weightSums, .ref rC_toldWorths, .ref rC_steps, .ref rC_below, .ref rC_above, .ref rC_unsureWords, .ref rC_unsureWorths]))] H := hP
      have hD : va_D A [(rC_partNodes, .inl (kC_partNodes, 72, .inl f_170)), (rC_weights, .inl (kC_weights, 72, .inl f_171)), (rC_weightSums, .inl (kC_weightSums, 18, .inl fC_weightSums)), (rC_steps, .inl (kC_steps, 18, .inl fC_steps)), (rC_below, .inl (kC_below, 18, .inl fC_below)), (rC_above, .inl (kC_above, 18, .inl fC_above)), (rC_parts, .inl (kC_parts, 18, .inl f_174)), (oC, .inr (1, [.int iC_nodes, .int iC_words, .int iC_chances, .int iC_unsures, .int iC_slips, .int iC_throneNode, .int iC_saidWorth, .int iC_unit, .ref rC_kind, .ref rC_parts, .ref rC_partNodes, .ref rC_weights, .ref rC_weightSums, .ref rC_toldWorths, .ref rC_steps, .ref rC_below, .ref rC_above, .ref rC_unsureWords, .ref rC_unsureWorths]))] := hD
      refine lv_aload_n hx hb dX1_addPart_59 rfl (lv_at hl 1 rfl) ?_
      refine va_get (D := (dC, dI)) (ci := 1) (v := .ref rC_weightSums) (C := RX1) (T := TX1) (N := 19) hx hb hts inX1 hown hK hP 7 rfl rfl 12 (by decide) (hts _ wd_58) (fun _ h9 => h9) rfl dX1_addPart_60 ?_
      refine lv_aload_n hx hb dX1_addPart_63 rfl (lv_at hl 1 rfl) ?_
      refine va_get (D := (dC, dI)) (ci := 1) (v := .int iC_nodes) (C := RX1) (T := TX1) (N := 19) hx hb hts inX1 hown hK hP 7 rfl rfl 0 (by decide) (hts _ wd_215) (fun _ h9 => h9) rfl dX1_addPart_64 ?_
      refine lv_dup2_11 hx hb dX1_addPart_67 rfl rfl ?_
      refine va_iald hx hb hK hP 2 2 rfl rfl (ti_in rfl (by omega) (by omega)) dX1_addPart_68 ?_
      refine lv_topi (fun x_175 ex_175 => ?_)
      have rg_x_175 := fb_rng x_175
      have kx_175 : (fC_weightSums iC_nodes.toNatClampNeg).toInt = x_175.toInt := by rw [ex_175]
      refine lv_iload_n hx hb dX1_addPart_69 rfl (lv_at hl 3 rfl) ?_
      refine lv_iadd hx hb dX1_addPart_70 ?_
      refine lv_topi (fun x_176 ex_176 => ?_)
      have rg_x_176 := fb_rng x_176
      refine vz_iast hx hb hK hP hD hS 2 2 rfl rfl (ti_in rfl (by omega) (by omega)) dX1_addPart_71 (fun H locs f_177 hP hD hS => ?_)
      have hP : va_P (dC, dI) vwCl [(rC_partNodes, .inl (kC_partNodes, 72, .inl f_170)), (rC_weights, .inl (kC_weights, 72, .inl f_171)), (rC_weightSums, .inl (kC_weightSums, 18, .inl f_177)), (rC_steps, .inl (kC_steps, 18, .inl fC_steps)), (rC_below, .inl (kC_below, 18, .inl fC_below)), (rC_above, .inl (kC_above, 18, .inl fC_above)), (rC_parts, .inl (kC_parts, 18, .inl f_174)), (oC, .inr (1, [.int iC_nodes, .int iC_words, .int iC_chances, .int iC_unsures, .int iC_slips, .int iC_throneNode, .int iC_saidWorth, .int iC_unit, .ref rC_kind, .ref rC_parts, .ref rC_partNodes, .ref rC_weights, .ref rC_weightSums, .ref rC_toldWorths, .ref rC_steps, .ref rC_below, .ref rC_above, .ref rC_unsureWords, .ref rC_unsureWorths]))] H := hP
      have hD : va_D A [(rC_partNodes, .inl (kC_partNodes, 72, .inl f_170)), (rC_weights, .inl (kC_weights, 72, .inl f_171)), (rC_weightSums, .inl (kC_weightSums, 18, .inl f_177)), (rC_steps, .inl (kC_steps, 18, .inl fC_steps)), (rC_below, .inl (kC_below, 18, .inl fC_below)), (rC_above, .inl (kC_above, 18, .inl fC_above)), (rC_parts, .inl (kC_parts, 18, .inl f_174)), (oC, .inr (1, [.int iC_nodes, .int iC_words, .int iC_chances, .int iC_unsures, .int iC_slips, .int iC_throneNode, .int iC_saidWorth, .int iC_unit, .ref rC_kind, .ref rC_parts, .ref rC_partNodes, .ref rC_weights, .ref rC_weightSums, .ref rC_toldWorths, .ref rC_steps, .ref rC_below, .ref rC_above, .ref rC_unsureWords, .ref rC_unsureWorths]))] := hD
      refine lv_aload_n hx hb dX1_addPart_72 rfl (lv_at hl 1 rfl) ?_
      refine va_get (D := (dC, dI)) (ci := 1) (v := .ref rC_steps) (C := RX1) (T := TX1) (N := 19) hx hb hts inX1 hown hK hP 7 rfl rfl 14 (by decide) (hts _ wd_60) (fun _ h9 => h9) rfl dX1_addPart_73 ?_
      refine lv_aload_n hx hb dX1_addPart_76 rfl (lv_at hl 1 rfl) ?_
      refine va_get (D := (dC, dI)) (ci := 1) (v := .int iC_nodes) (C := RX1) (T := TX1) (N := 19) hx hb hts inX1 hown hK hP 7 rfl rfl 0 (by decide) (hts _ wd_215) (fun _ h9 => h9) rfl dX1_addPart_77 ?_
      refine lv_aload_n hx hb dX1_addPart_80 rfl (lv_at hl 1 rfl) ?_
      refine va_get (D := (dC, dI)) (ci := 1) (v := .ref rC_steps) (C := RX1) (T := TX1) (N := 19) hx hb hts inX1 hown hK hP 7 rfl rfl 14 (by decide) (hts _ wd_60) (fun _ h9 => h9) rfl dX1_addPart_81 ?_
      refine lv_aload_n hx hb dX1_addPart_84 rfl (lv_at hl 1 rfl) ?_
      refine va_get (D := (dC, dI)) (ci := 1) (v := .int iC_nodes) (C := RX1) (T := TX1) (N := 19) hx hb hts inX1 hown hK hP 7 rfl rfl 0 (by decide) (hts _ wd_215) (fun _ h9 => h9) rfl dX1_addPart_85 ?_
      refine va_iald hx hb hK hP 3 3 rfl rfl (ti_in rfl (by omega) (by omega)) dX1_addPart_88 ?_
      refine lv_topi (fun x_178 ex_178 => ?_)
      have rg_x_178 := fb_rng x_178
      have kx_178 : (fC_steps iC_nodes.toNatClampNeg).toInt = x_178.toInt := by rw [ex_178]
      refine lv_aload_n hx hb dX1_addPart_89 rfl (lv_at hl 1 rfl) ?_
      refine va_get (D := (dC, dI)) (ci := 1) (v := .ref rC_steps) (C := RX1) (T := TX1) (N := 19) hx hb hts inX1 hown hK hP 7 rfl rfl 14 (by decide) (hts _ wd_60) (fun _ h9 => h9) rfl dX1_addPart_90 ?_
      refine lv_iload_n hx hb dX1_addPart_93 rfl (lv_at hl 2 rfl) ?_
      refine va_iald hx hb hK hP 3 3 rfl rfl (ti_in rfl (by omega) (by omega)) dX1_addPart_94 ?_
      refine lv_topi (fun x_179 ex_179 => ?_)
      have rg_x_179 := fb_rng x_179
      have kx_179 : (fC_steps p0.toNatClampNeg).toInt = x_179.toInt := by rw [ex_179]
      refine lv_iconst (v := 1) hx hb dX1_addPart_95 (by decide) ?_
      refine lv_iadd hx hb dX1_addPart_96 ?_
      refine lv_topi (fun x_180 ex_180 => ?_)
      have rg_x_180 := fb_rng x_180
      refine va_mmax hx hb (hml.trans hl.1.symm) hown (hts _ wd_320) (hts _ wd_321) (hts _ wd_322) (hts _ wd_323) (Nat.le_of_ble_eq_true rfl) (Nat.le_of_ble_eq_true rfl) (Nat.le_of_ble_eq_true rfl) (Nat.le_of_ble_eq_true rfl) dX1_addPart_97 ?_
      refine lv_topi (fun x_181 ex_181 => ?_)
      have rg_x_181 := fb_rng x_181
      have qx_181 := ti_max ex_181 rfl rfl
      refine vz_iast hx hb hK hP hD hS 3 3 rfl rfl (ti_in rfl (by omega) (by omega)) dX1_addPart_100 (fun H locs f_182 hP hD hS => ?_)
      have hP : va_P (dC, dI) vwCl [(rC_partNodes, .inl (kC_partNodes, 72, .inl f_170)), (rC_weights, .inl (kC_weights, 72, .inl f_171)), (rC_weightSums, .inl (kC_weightSums, 18, .inl f_177)), (rC_steps, .inl (kC_steps, 18, .inl f_182)), (rC_below, .inl (kC_below, 18, .inl fC_below)), (rC_above, .inl (kC_above, 18, .inl fC_above)), (rC_parts, .inl (kC_parts, 18, .inl f_174)), (oC, .inr (1, [.int iC_nodes, .int iC_words, .int iC_chances, .int iC_unsures, .int iC_slips, .int iC_throneNode, .int iC_saidWorth, .int iC_unit, .ref rC_kind, .ref rC_parts, .ref rC_partNodes, .ref rC_weights, .ref rC_weightSums, .ref rC_toldWorths, .ref rC_steps, .ref rC_below, .ref rC_above, .ref rC_unsureWords, .ref rC_unsureWorths]))] H := hP
      have hD : va_D A [(rC_partNodes, .inl (kC_partNodes, 72, .inl f_170)), (rC_weights, .inl (kC_weights, 72, .inl f_171)), (rC_weightSums, .inl (kC_weightSums, 18, .inl f_177)), (rC_steps, .inl (kC_steps, 18, .inl f_182)), (rC_below, .inl (kC_below, 18, .inl fC_below)), (rC_above, .inl (kC_above, 18, .inl fC_above)), (rC_parts, .inl (kC_parts, 18, .inl f_174)), (oC, .inr (1, [.int iC_nodes, .int iC_words, .int iC_chances, .int iC_unsures, .int iC_slips, .int iC_throneNode, .int iC_saidWorth, .int iC_unit, .ref rC_kind, .ref rC_parts, .ref rC_partNodes, .ref rC_weights, .ref rC_weightSums, .ref rC_toldWorths, .ref rC_steps, .ref rC_below, .ref rC_above, .ref rC_unsureWords, .ref rC_unsureWorths]))] := hD
      refine lv_aload_n hx hb dX1_addPart_101 rfl (lv_at hl 1 rfl) ?_
      refine va_get (D := (dC, dI)) (ci := 1) (v := .ref rC_below) (C := RX1) (T := TX1) (N := 19) hx hb hts inX1 hown hK hP 7 rfl rfl 15 (by decide) (hts _ wd_61) (fun _ h9 => h9) rfl dX1_addPart_102 ?_
      refine lv_aload_n hx hb dX1_addPart_105 rfl (lv_at hl 1 rfl) ?_
      refine va_get (D := (dC, dI)) (ci := 1) (v := .int iC_nodes) (C := RX1) (T := TX1) (N := 19) hx hb hts inX1 hown hK hP 7 rfl rfl 0 (by decide) (hts _ wd_215) (fun _ h9 => h9) rfl dX1_addPart_106 ?_
      refine lv_dup2_11 hx hb dX1_addPart_109 rfl rfl ?_
      refine va_iald hx hb hK hP 4 4 rfl rfl (ti_in rfl (by omega) (by omega)) dX1_addPart_110 ?_
      refine lv_topi (fun x_183 ex_183 => ?_)
      have rg_x_183 := fb_rng x_183
      have kx_183 : (fC_below iC_nodes.toNatClampNeg).toInt = x_183.toInt := by rw [ex_183]
      refine lv_aload_n hx hb dX1_addPart_111 rfl (lv_at hl 1 rfl) ?_
      refine va_get (D := (dC, dI)) (ci := 1) (v := .ref rC_below) (C := RX1) (T := TX1) (N := 19) hx hb hts inX1 hown hK hP 7 rfl rfl 15 (by decide) (hts _ wd_61) (fun _ h9 => h9) rfl dX1_addPart_112 ?_
      refine lv_iload_n hx hb dX1_addPart_115 rfl (lv_at hl 2 rfl) ?_
      refine va_iald hx hb hK hP 4 4 rfl rfl (ti_in rfl (by omega) (by omega)) dX1_addPart_116 ?_
      refine lv_topi (fun x_184 ex_184 => ?_)
      have rg_x_184 := fb_rng x_184
      have kx_184 : (fC_below p0.toNatClampNeg).toInt = x_184.toInt := by rw [ex_184]
      refine lv_ior hx hb dX1_addPart_117 ?_
      refine lv_topi (fun x_185 ex_185 => ?_)
      have rg_x_185 := fb_rng x_185
      refine vz_iast hx hb hK hP hD hS 4 4 rfl rfl (ti_in rfl (by omega) (by omega)) dX1_addPart_118 (fun H locs f_186 hP hD hS => ?_)
      have hP : va_P (dC, dI) vwCl [(rC_partNodes, .inl (kC_partNodes, 72, .inl f_170)), (rC_weights, .inl (kC_weights, 72, .inl f_171)), (rC_weightSums, .inl (kC_weightSums, 18, .inl f_177)), (rC_steps, .inl (kC_steps, 18, .inl f_182)), (rC_below, .inl (kC_below, 18, .inl f_186)), (rC_above, .inl (kC_above, 18, .inl fC_above)), (rC_parts, .inl (kC_parts, 18, .inl f_174)), (oC, .inr (1, [.int iC_nodes, .int iC_words, .int iC_chances, .int iC_unsures, .int iC_slips, .int iC_throneNode, .int iC_saidWorth, .int iC_unit, .ref rC_kind, .ref rC_parts, .ref rC_partNodes, .ref rC_weights, .ref rC_weightSums, .ref rC_toldWorths, .ref rC_steps, .ref rC_below, .ref rC_above, .ref rC_unsureWords, .ref rC_unsureWorths]))] H := hP
      have hD : va_D A [(rC_partNodes, .inl (kC_partNodes, 72, .inl f_170)), (rC_weights, .inl (kC_weights, 72, .inl f_171)), (rC_weightSums, .inl (kC_weightSums, 18, .inl f_177)), (rC_steps, .inl (kC_steps, 18, .inl f_182)), (rC_below, .inl (kC_below, 18, .inl f_186)), (rC_above, .inl (kC_above, 18, .inl fC_above)), (rC_parts, .inl (kC_parts, 18, .inl f_174)), (oC, .inr (1, [.int iC_nodes, .int iC_words, .int iC_chances, .int iC_unsures, .int iC_slips, .int iC_throneNode, .int iC_saidWorth, .int iC_unit, .ref rC_kind, .ref rC_parts, .ref rC_partNodes, .ref rC_weights, .ref rC_weightSums, .ref rC_toldWorths, .ref rC_steps, .ref rC_below, .ref rC_above, .ref rC_unsureWords, .ref rC_unsureWorths]))] := hD
      refine lv_aload_n hx hb dX1_addPart_119 rfl (lv_at hl 1 rfl) ?_
      refine va_get (D := (dC, dI)) (ci := 1) (v := .ref rC_above) (C := RX1) (T := TX1) (N := 19) hx hb hts inX1 hown hK hP 7 rfl rfl 16 (by decide) (hts _ wd_62) (fun _ h9 => h9) rfl dX1_addPart_120 ?_
      refine lv_iload_n hx hb dX1_addPart_123 rfl (lv_at hl 2 rfl) ?_
      refine lv_dup2_11 hx hb dX1_addPart_124 rfl rfl ?_
      refine va_iald hx hb hK hP 5 5 rfl rfl (ti_in rfl (by omega) (by omega)) dX1_addPart_125 ?_
      refine lv_topi (fun x_187 ex_187 => ?_)
      have rg_x_187 := fb_rng x_187
      have kx_187 : (fC_above p0.toNatClampNeg).toInt = x_187.toInt := by rw [ex_187]
      refine lv_iconst (v := 1) hx hb dX1_addPart_126 (by decide) ?_
      refine lv_aload_n hx hb dX1_addPart_127 rfl (lv_at hl 1 rfl) ?_
      refine va_get (D := (dC, dI)) (ci := 1) (v := .int iC_nodes) (C := RX1) (T := TX1) (N := 19) hx hb hts inX1 hown hK hP 7 rfl rfl 0 (by decide) (hts _ wd_215) (fun _ h9 => h9) rfl dX1_addPart_128 ?_
      refine lv_ishl hx hb dX1_addPart_131 ?_
      refine lv_topi (fun x_188 ex_188 => ?_)
      have rg_x_188 := fb_rng x_188
      refine lv_ior hx hb dX1_addPart_132 ?_
      refine lv_topi (fun x_189 ex_189 => ?_)
      have rg_x_189 := fb_rng x_189
      refine vz_iast hx hb hK hP hD hS 5 5 rfl rfl (ti_in rfl (by omega) (by omega)) dX1_addPart_133 (fun H locs f_190 hP hD hS => ?_)
      have hP : va_P (dC, dI) vwCl [(rC_partNodes, .inl (kC_partNodes, 72, .inl f_170)), (rC_weights, .inl (kC_weights, 72, .inl f_171)), (rC_weightSums, .inl (kC_weightSums, 18, .inl f_177)), (rC_steps, .inl (kC_steps, 18, .inl f_182)), (rC_below, .inl (kC_below, 18, .inl f_186)), (rC_above, .inl (kC_above, 18, .inl f_190)), (rC_parts, .inl (kC_parts, 18, .inl f_174)), (oC, .inr (1, [.int iC_nodes, .int iC_words, .int iC_chances, .int iC_unsures, .int iC_slips, .int iC_throneNode, .int iC_saidWorth, .int iC_unit, .ref rC_kind, .ref rC_parts, .ref rC_partNodes, .ref rC_weights, .ref rC_weightSums, .ref rC_toldWorths, .ref rC_steps, .ref rC_below, .ref rC_above, .ref rC_unsureWords, .ref rC_unsureWorths]))] H := hP
      have hD : va_D A [(rC_partNodes, .inl (kC_partNodes, 72, .inl f_170)), (rC_weights, .inl (kC_weights, 72, .inl f_171)), (rC_weightSums, .inl (kC_weightSums, 18, .inl f_177)), (rC_steps, .inl (kC_steps, 18, .inl f_182)), (rC_below, .inl (kC_below, 18, .inl f_186)), (rC_above, .inl (kC_above, 18, .inl f_190)), (rC_parts, .inl (kC_parts, 18, .inl f_174)), (oC, .inr (1, [.int iC_nodes, .int iC_words, .int iC_chances, .int iC_unsures, .int iC_slips, .int iC_throneNode, .int iC_saidWorth, .int iC_unit, .ref rC_kind, .ref rC_parts, .ref rC_partNodes, .ref rC_weights, .ref rC_weightSums, .ref rC_toldWorths, .ref rC_steps, .ref rC_below, .ref rC_above, .ref rC_unsureWords, .ref rC_unsureWorths]))] := hD
      have hP9 := hP.sub (ws' := [(oC, .inr (1, [.int iC_nodes, .int iC_words, .int iC_chances, .int iC_unsures, .int iC_slips, .int iC_throneNode, .int iC_saidWorth, .int iC_unit, .ref rC_kind, .ref rC_parts, .ref rC_partNodes, .ref rC_weights, .ref rC_weightSums, .ref rC_toldWorths, .ref rC_steps, .ref rC_below, .ref rC_above, .ref rC_unsureWords, .ref rC_unsureWorths])), (rC_parts, .inl (kC_parts, 18, .inl f_174)), (rC_partNodes, .inl (kC_partNodes, 72, .inl f_170)), (rC_weights, .inl (kC_weights, 72, .inl f_171)), (rC_weightSums, .inl (kC_weightSums, 18, .inl f_177)), (rC_steps, .inl (kC_steps, 18, .inl f_182)), (rC_below, .inl (kC_below, 18, .inl f_186)), (rC_above, .inl (kC_above, 18, .inl f_190))]) [7, 6, 0, 1, 2, 3, 4, 5] rfl
      have hD9 := hD.sub (ws' := [(oC, .inr (1, [.int iC_nodes, .int iC_words, .int iC_chances, .int iC_unsures, .int iC_slips, .int iC_throneNode, .int iC_saidWorth, .int iC_unit, .ref rC_kind, .ref rC_parts, .ref rC_partNodes, .ref rC_weights, .ref rC_weightSums, .ref rC_toldWorths, .ref rC_steps, .ref rC_below, .ref rC_above, .ref rC_unsureWords, .ref rC_unsureWorths])), (rC_parts, .inl (kC_parts, 18, .inl f_174)), (rC_partNodes, .inl (kC_partNodes, 72, .inl f_170)), (rC_weights, .inl (kC_weights, 72, .inl f_171)), (rC_weightSums, .inl (kC_weightSums, 18, .inl f_177)), (rC_steps, .inl (kC_steps, 18, .inl f_182)), (rC_below, .inl (kC_below, 18, .inl f_186)), (rC_above, .inl (kC_above, 18, .inl f_190))]) [7, 6, 0, 1, 2, 3, 4, 5] (by decide) rfl
      have hK9 := hK.sub (tys' := [(kC_parts, .int), (kC_partNodes, .int), (kC_weights, .int), (kC_weightSums, .int), (kC_steps, .int), (kC_below, .int), (kC_above, .int)]) [6, 0, 1, 2, 3, 4, 5] rfl
      exact W.vret hx hb hr (fun t ht hW => ⟨⟨0, rfl, trivial, ⟨f_174, f_170, f_171, f_177, f_182, f_186, f_190, a_f_174, a_f_170, Bw.to hP9 hD9 hK9 ht hW⟩⟩, hS.F ht⟩) hS.2.2 dX1_addPart_134
    · skip
      refine lv_if_eq (tgt := 134) hx hb dX1_addPart_12 (by decide) (fun _ => ?_) (fun c => absurd c (by decide))
      have hP9 := hP.sub (ws' := [(oC, .inr (1, [.int iC_nodes, .int iC_words, .int iC_chances, .int iC_unsures, .int iC_slips, .int iC_throneNode, .int iC_saidWorth, .int iC_unit, .ref rC_kind, .ref rC_parts, .ref rC_partNodes, .ref rC_weights, .ref rC_weightSums, .ref rC_toldWorths, .ref rC_steps, .ref rC_below, .ref rC_above, .ref rC_unsureWords, .ref rC_unsureWorths])), (rC_parts, .inl (kC_parts, 18, .inl fC_parts)), (rC_partNodes, .inl (kC_partNodes, 72, .inl fC_partNodes)), (rC_weights, .inl (kC_weights, 72, .inl fC_weights)), (rC_weightSums, .inl (kC_weightSums, 18, .inl fC_weightSums)), (rC_steps, .inl (kC_steps, 18, .inl fC_steps)), (rC_below, .inl (kC_below, 18, .inl fC_below)), (rC_above, .inl (kC_above, 18, .inl fC_above))]) [7, 6, 0, 1, 2, 3, 4, 5] rfl
      have hD9 := hD.sub (ws' := [(oC, .inr (1, [.int iC_nodes, .int iC_words, .int iC_chances, .int iC_unsures, .int iC_slips, .int iC_throneNode, .int iC_saidWorth, .int iC_unit, .ref rC_kind, .ref rC_parts, .ref rC_partNodes, .ref rC_weights, .ref rC_weightSums, .ref rC_toldWorths, .ref rC_steps, .ref rC_below, .ref rC_above, .ref rC_unsureWords, .ref rC_unsureWorths])), (rC_parts, .inl (kC_parts, 18, .inl fC_parts)), (rC_partNodes, .inl (kC_partNodes, 72, .inl fC_partNodes)), (rC_weights, .inl (kC_weights, 72, .inl fC_weights)), (rC_weightSums, .inl (kC_weightSums, 18, .inl fC_weightSums)), (rC_steps, .inl (kC_steps, 18, .inl fC_steps)), (rC_below, .inl (kC_below, 18, .inl fC_below)), (rC_above, .inl (kC_above, 18, .inl fC_above))]) [7, 6, 0, 1, 2, 3, 4, 5] (by decide) rfl
      have hK9 := hK.sub (tys' := [(kC_parts, .int), (kC_partNodes, .int), (kC_weights, .int), (kC_weightSums, .int), (kC_steps, .int), (kC_below, .int), (kC_above, .int)]) [6, 0, 1, 2, 3, 4, 5] rfl
      exact W.vret hx hb hr (fun t ht hW => ⟨⟨0, rfl, trivial, ⟨fC_parts, fC_partNodes, fC_weights, fC_weightSums, fC_steps, fC_below, fC_above, a_fC_parts, a_fC_partNodes, Bw.to hP9 hD9 hK9 ht hW⟩⟩, hS.F ht⟩) hS.2.2 dX1_addPart_134
  · skip
    refine lv_if_eq (tgt := 134) hx hb dX1_addPart_4 (by decide) (fun _ => ?_) (fun c => absurd c (by decide))
    have hP9 := hP.sub (ws' := [(oC, .inr (1, [.int iC_nodes, .int iC_words, .int iC_chances, .int iC_unsures, .int iC_slips, .int iC_throneNode, .int iC_saidWorth, .int iC_unit, .ref rC_kind, .ref rC_parts, .ref rC_partNodes, .ref rC_weights, .ref rC_weightSums, .ref rC_toldWorths, .ref rC_steps, .ref rC_below, .ref rC_above, .ref rC_unsureWords, .ref rC_unsureWorths])), (rC_parts, .inl (kC_parts, 18, .inl fC_parts)), (rC_partNodes, .inl (kC_partNodes, 72, .inl fC_partNodes)), (rC_weights, .inl (kC_weights, 72, .inl fC_weights)), (rC_weightSums, .inl (kC_weightSums, 18, .inl fC_weightSums)), (rC_steps, .inl (kC_steps, 18, .inl fC_steps)), (rC_below, .inl (kC_below, 18, .inl fC_below)), (rC_above, .inl (kC_above, 18, .inl fC_above))]) [6, 7, 0, 1, 2, 3, 4, 5] rfl
    have hD9 := hD.sub (ws' := [(oC, .inr (1, [.int iC_nodes, .int iC_words, .int iC_chances, .int iC_unsures, .int iC_slips, .int iC_throneNode, .int iC_saidWorth, .int iC_unit, .ref rC_kind, .ref rC_parts, .ref rC_partNodes, .ref rC_weights, .ref rC_weightSums, .ref rC_toldWorths, .ref rC_steps, .ref rC_below, .ref rC_above, .ref rC_unsureWords, .ref rC_unsureWorths])), (rC_parts, .inl (kC_parts, 18, .inl fC_parts)), (rC_partNodes, .inl (kC_partNodes, 72, .inl fC_partNodes)), (rC_weights, .inl (kC_weights, 72, .inl fC_weights)), (rC_weightSums, .inl (kC_weightSums, 18, .inl fC_weightSums)), (rC_steps, .inl (kC_steps, 18, .inl fC_steps)), (rC_below, .inl (kC_below, 18, .inl fC_below)), (rC_above, .inl (kC_above, 18, .inl fC_above))]) [6, 7, 0, 1, 2, 3, 4, 5] (by decide) rfl
    have hK9 := hK.sub (tys' := [(kC_parts, .int), (kC_partNodes, .int), (kC_weights, .int), (kC_weightSums, .int), (kC_steps, .int), (kC_below, .int), (kC_above, .int)]) [6, 0, 1, 2, 3, 4, 5] rfl
    exact W.vret hx hb hr (fun t ht hW => ⟨⟨0, rfl, trivial, ⟨fC_parts, fC_partNodes, fC_weights, fC_weightSums, fC_steps, fC_below, fC_above, a_fC_parts, a_fC_partNodes, Bw.to hP9 hD9 hK9 ht hW⟩⟩, hS.F ht⟩) hS.2.2 dX1_addPart_134
set_option maxHeartbeats 4000000 in
set_option maxRecDepth 100000 in
theorem tX1_likelihood (l : Launch) (dC : Nat → ClassId) (dI : Nat → Nat → Nat) (sz : Nat) (oC : Nat) (iC_nodes : Int32) (iC_words : Int32) (iC_chances : Int32) (iC_unsures : Int32) (iC_slips : Int32) (iC_throneNode : Int32) (iC_saidWorth : Int32) (iC_unit : Int32) (rC_kind : Nat) (rC_parts : Nat) (rC_partNodes : Nat) (rC_weights : Nat) (rC_weightSums : Nat) (rC_toldWorths : Nat) (rC_steps : Nat) (rC_below : Nat) (rC_above : Nat) (rC_unsureWords : Nat) (rC_unsureWorths : Nat) (p0 : Int32) (b_iC_nodes : 0 ≤ iC_nodes.toInt ∧ iC_nodes.toInt ≤ 18) (b_iC_unsures : 0 ≤ iC_unsures.toInt ∧ iC_unsures.toInt ≤ 4)  : Met l yX1_likelihood (Cond.code yX1_likelihood cX1_likelihood 5 (some .long) :: wG) ({ frames := 0, cells := 0, slots := 0, locals := 0 }) (va_Pc [.ref oC, .int p0] (Pw dC dI sz [(oC, .inr (1, [.int iC_nodes, .int iC_words, .int iC_chances, .int iC_unsures, .int iC_slips, .int iC_throneNode, .int iC_saidWorth, .int iC_unit, .ref rC_kind, .ref rC_parts, .ref rC_partNodes, .ref rC_weights, .ref rC_weightSums, .ref rC_toldWorths, .ref rC_steps, .ref rC_below, .ref rC_above, .ref rC_unsureWords, .ref rC_unsureWorths]))] [])) (va_Ql (fun (r : Int64) (_ : Nat) => True ∧ True) (fun (_ : Nat) (t : State) => Bw dC dI (va_A [(oC, .inr (1, [.int iC_nodes, .int iC_words, .int iC_chances, .int iC_unsures, .int iC_slips, .int iC_throneNode, .int iC_saidWorth, .int iC_unit, .ref rC_kind, .ref rC_parts, .ref rC_partNodes, .ref rC_weights, .ref rC_weightSums, .ref rC_toldWorths, .ref rC_steps, .ref rC_below, .ref rC_above, .ref rC_unsureWords, .ref rC_unsureWorths]))] sz) [(oC, .inr (1, [.int iC_nodes, .int iC_words, .int iC_chances, .int iC_unsures, .int iC_slips, .int iC_throneNode, .int iC_saidWorth, .int iC_unit, .ref rC_kind, .ref rC_parts, .ref rC_partNodes, .ref rC_weights, .ref rC_weightSums, .ref rC_toldWorths, .ref rC_steps, .ref rC_below, .ref rC_above, .ref rC_unsureWords, .ref rC_unsureWorths]))] [] t) (va_A [(oC, .inr (1, [.int iC_nodes, .int iC_words, .int iC_chances, .int iC_unsures, .int iC_slips, .int iC_throneNode, .int iC_saidWorth, .int iC_unit, .ref rC_kind, .ref rC_parts, .ref rC_partNodes, .ref rC_weights, .ref rC_weightSums, .ref rC_toldWorths, .ref rC_steps, .ref rC_below, .ref rC_above, .ref rC_unsureWords, .ref rC_unsureWorths]))] sz)) 0 0 (va_A [(oC, .inr (1, [.int iC_nodes, .int iC_words, .int iC_chances, .int iC_unsures, .int iC_slips, .int iC_throneNode, .int iC_saidWorth, .int iC_unit, .ref rC_kind, .ref rC_parts, .ref rC_partNodes, .ref rC_weights, .ref rC_weightSums, .ref rC_toldWorths, .ref rC_steps, .ref rC_below, .ref rC_above, .ref rC_unsureWords, .ref rC_unsureWorths]))] sz) := by
  refine Met.ofW (cc := cX1_likelihood) (maxL := 5) (ret := (some .long)) (by decide) rfl ?_
  intro p e s m args below meth c s₁ B hml hv
  obtain ⟨rfl, hsz, hP, hK, hD0, hE⟩ := hv
  have hx := B.exec
  have hb := B.bytes
  have hr := B.returns
  have hts : ∀ w ∈ wG, w.before ([.ref oC, .int p0] : List Value).toArray s = true := fun w h => atoms_spec (ws := Cond.code yX1_likelihood cX1_likelihood 5 (some .long) :: wG) B.pre w (List.mem_cons_of_mem _ h)
  have hown : s.vm.findClass RX1 = some m.cls := findClass_of_methodNamed B.named
  have hlocks := B.notSynchronized
  subst hsz
  have hD := hD0.self (sz := s.heap.size)
  generalize hAe : va_A [(oC, .inr (1, [.int iC_nodes, .int iC_words, .int iC_chances, .int iC_unsures, .int iC_slips, .int iC_throneNode, .int iC_saidWorth, .int iC_unit, .ref rC_kind, .ref rC_parts, .ref rC_partNodes, .ref rC_weights, .ref rC_weightSums, .ref rC_toldWorths, .ref rC_steps, .ref rC_below, .ref rC_above, .ref rC_unsureWords, .ref rC_unsureWorths]))] s.heap.size = A at hD hE ⊢
  have hA : ∀ q : Nat, s.heap.size ≤ q → A q := fun q h => by rw [← hAe]; exact Or.inr h
  have hS : va_S A s.heap s.heap [] := va_S.rf
  have hl := lv_entry ([.ref oC, .int p0]) (n := 5) (Nat.le_of_ble_eq_true rfl)
  rw [lg_entry_eq]
  generalize (lg_sl ([.ref oC, .int p0]) ++ List.replicate (5 - (lg_sl ([.ref oC, .int p0])).length) Slot.unset).toArray = ls at hl ⊢
  have hl : lv_has ls 5 [(0, .ref oC), (1, .int p0)] := hl
  have rg_p0 := fb_rng p0
  refine lv_lconst (v := 1) hx hb dX1_likelihood_0 (by decide) ?_
  refine lv_lstore_n (lv' := [(2, .long 1), (0, .ref oC), (1, .int p0)]) hx hb dX1_likelihood_1 rfl hl (by decide) rfl (fun ls hl => ?_)
  refine lv_iconst (v := 0) hx hb dX1_likelihood_2 (by decide) ?_
  refine lv_istore (lv' := [(4, .int 0), (2, .long 1), (0, .ref oC), (1, .int p0)]) hx hb dX1_likelihood_3 hl (by decide) rfl (fun ls hl => ?_)
  have hl := lv_sub hl (l' := [(4, .int 0), (2, .long 1), (0, .ref oC), (1, .int p0)]) [0, 1, 2, 3] rfl
  have key_n_219 : ∀ (n_219 : Nat) (z_217 : Int32) (z_218 : Int64) (H : Heap) (locs : List Loc) (ls : Array Slot), (0 ≤ z_217.toInt ∧ z_217.toInt ≤ 2147483647) → (2147483647 - z_217.toInt).toNat < n_219 → va_P (dC, dI) vwCl [(oC, .inr (1, [.int iC_nodes, .int iC_words, .int iC_chances, .int iC_unsures, .int iC_slips, .int iC_throneNode, .int iC_saidWorth, .int iC_unit, .ref rC_kind, .ref rC_parts, .ref rC_partNodes, .ref rC_weights, .ref rC_weightSums, .ref rC_toldWorths, .ref rC_steps, .ref rC_below, .ref rC_above, .ref rC_unsureWords, .ref rC_unsureWorths]))] H → va_D A [(oC, .inr (1, [.int iC_nodes, .int iC_words, .int iC_chances, .int iC_unsures, .int iC_slips, .int iC_throneNode, .int iC_saidWorth, .int iC_unit, .ref rC_kind, .ref rC_parts, .ref rC_partNodes, .ref rC_weights, .ref rC_weightSums, .ref rC_toldWorths, .ref rC_steps, .ref rC_below, .ref rC_above, .ref rC_unsureWords, .ref rC_unsureWorths]))] → va_S A s.heap H locs → lv_has ls 5 [(4, .int z_217), (2, .long z_218), (0, .ref oC), (1, .int p0)] → W p l e (headSpec (Cond.code yX1_likelihood cX1_likelihood 5 (some .long) :: wG) ({ frames := 0, cells := 0, slots := 0, locals := 0 })).room s m ([.ref oC, .int p0] : List Value).toArray below meth c H locs 0 0 (MQ below (va_Ql (fun (r : Int64) (_ : Nat) => True ∧ True) (fun (_ : Nat) (t : State) => Bw dC dI A [(oC, .inr (1, [.int iC_nodes, .int iC_words, .int iC_chances, .int iC_unsures, .int iC_slips, .int iC_throneNode, .int iC_saidWorth, .int iC_unit, .ref rC_kind, .ref rC_parts, .ref rC_partNodes, .ref rC_weights, .ref rC_weightSums, .ref rC_toldWorths, .ref rC_steps, .ref rC_below, .ref rC_above, .ref rC_unsureWords, .ref rC_unsureWorths]))] [] t) A) ([.ref oC, .int p0] : List Value).toArray s 0 0 A) (F0 m 5 ls []) := by
    intro n_219
    induction n_219 with
    | zero => intro z_217 z_218 H locs ls hi0_n_219 hm; exact absurd hm (by omega)
    | succ n_219 ih_n_219 =>
      intro z_217 z_218 H locs ls hi0_n_219 hm hP hD hS hl
      have rg_z_217 := fb_rng z_217
      refine lv_iload hx hb dX1_likelihood_5 (lv_at hl 0 rfl) ?_
      refine lv_aload_n hx hb dX1_likelihood_7 rfl (lv_at hl 2 rfl) ?_
      refine va_get (D := (dC, dI)) (ci := 1) (v := .int iC_unsures) (C := RX1) (T := TX1) (N := 19) hx hb hts inX1 hown hK hP 0 rfl rfl 3 (by decide) (hts _ wd_218) (fun _ h9 => h9) rfl dX1_likelihood_8 ?_
      have rg_iC_unsures := fb_rng iC_unsures
      refine lv_icmp_ge (tgt := 49) hx hb dX1_likelihood_11 (by decide) (fun c_220 => ?_) (fun c_220 => ?_)
      · skip
        have gc_220 := ti_le c_220 rfl rfl
        refine lv_lload_n hx hb dX1_likelihood_49 rfl (lv_at hl 1 rfl) ?_
        have hP9 := hP.sub (ws' := [(oC, .inr (1, [.int iC_nodes, .int iC_words, .int iC_chances, .int iC_unsures, .int iC_slips, .int iC_throneNode, .int iC_saidWorth, .int iC_unit, .ref rC_kind, .ref rC_parts, .ref rC_partNodes, .ref rC_weights, .ref rC_weightSums, .ref rC_toldWorths, .ref rC_steps, .ref rC_below, .ref rC_above, .ref rC_unsureWords, .ref rC_unsureWorths]))]) [0] rfl
        have hD9 := hD.sub (ws' := [(oC, .inr (1, [.int iC_nodes, .int iC_words, .int iC_chances, .int iC_unsures, .int iC_slips, .int iC_throneNode, .int iC_saidWorth, .int iC_unit, .ref rC_kind, .ref rC_parts, .ref rC_partNodes, .ref rC_weights, .ref rC_weightSums, .ref rC_toldWorths, .ref rC_steps, .ref rC_below, .ref rC_above, .ref rC_unsureWords, .ref rC_unsureWorths]))]) [0] (by decide) rfl
        have hK9 := hK.sub (tys' := []) [] rfl
        exact W.lret hx hb hr (fun t ht hW => ⟨⟨_, 0, rfl, ⟨trivial, trivial⟩, Bw.to hP9 hD9 hK9 ht hW⟩, hS.F ht⟩) hS.2.2 dX1_likelihood_50
      · skip
        have gc_220 := ti_nle c_220 rfl rfl
        refine lv_lload_n hx hb dX1_likelihood_14 rfl (lv_at hl 1 rfl) ?_
        refine lv_iload_n hx hb dX1_likelihood_15 rfl (lv_at hl 3 rfl) ?_
        refine lv_iload hx hb dX1_likelihood_16 (lv_at hl 0 rfl) ?_
        refine lv_ishr hx hb dX1_likelihood_18 ?_
        refine lv_topi (fun x_221 ex_221 => ?_)
        have rg_x_221 := fb_rng x_221
        refine lv_iconst (v := 1) hx hb dX1_likelihood_19 (by decide) ?_
        refine lv_iand hx hb dX1_likelihood_20 ?_
        refine lv_topi (fun x_222 ex_222 => ?_)
        have rg_x_222 := fb_rng x_222
        refine lv_iconst (v := 1) hx hb dX1_likelihood_21 (by decide) ?_
        refine lv_icmp_ne (tgt := 33) hx hb dX1_likelihood_22 (by decide) (fun c_223 => ?_) (fun c_223 => ?_)
        · skip
          have gc_223 := ti_ne c_223 rfl kc_1
          refine lv_bipush (v := 100) hx hb dX1_likelihood_33 (by decide) ?_
          refine lv_aload_n hx hb dX1_likelihood_35 rfl (lv_at hl 2 rfl) ?_
          refine va_get (D := (dC, dI)) (ci := 1) (v := .int iC_slips) (C := RX1) (T := TX1) (N := 19) hx hb hts inX1 hown hK hP 0 rfl rfl 4 (by decide) (hts _ wd_219) (fun _ h9 => h9) rfl dX1_likelihood_36 ?_
          have rg_iC_slips := fb_rng iC_slips
          refine lv_isub hx hb dX1_likelihood_39 ?_
          refine lv_topi (fun x_224 ex_224 => ?_)
          have rg_x_224 := fb_rng x_224
          obtain ⟨y_225, ey_225⟩ : ∃ z : Int64, z = (x_224 : Int32).toInt64 := ⟨_, rfl⟩
          refine lv_i2l (v := y_225) hx hb dX1_likelihood_40 ey_225.symm ?_
          refine lv_lmul hx hb dX1_likelihood_41 ?_
          refine lv_topl (fun y_226 ey_226 => ?_)
          refine lv_lstore_n (lv' := [(2, .long y_226), (4, .int z_217), (0, .ref oC), (1, .int p0)]) hx hb dX1_likelihood_42 rfl hl (by decide) rfl (fun ls hl => ?_)
          obtain ⟨x_227, ex_227⟩ : ∃ z : Int32, z = z_217 + Int32.ofInt 1 := ⟨_, rfl⟩
          have vx_227 : x_227.toInt = z_217.toInt + 1 := by have q := ti_add (y := 1) ex_227 rfl kc_1 (by omega) (by omega); omega
          refine lv_iinc (v := x_227) (lv' := [(4, .int x_227), (2, .long y_226), (0, .ref oC), (1, .int p0)]) hx hb dX1_likelihood_43 hl (k := 1) rfl ex_227.symm (by decide) rfl (fun ls hl => ?_)
          refine lv_goto (tgt := 5) hx hb dX1_likelihood_46 (by decide) ?_
          exact ih_n_219 x_227 y_226 _ _ _  (by first | omega | decide) (by omega) (hP.sub [0] rfl) (hD.sub [0] (by decide) rfl) hS (lv_sub hl [0, 1, 2, 3] rfl)
        · skip
          have gc_223 := ti_eq c_223 rfl kc_1
          refine lv_aload_n hx hb dX1_likelihood_25 rfl (lv_at hl 2 rfl) ?_
          refine va_get (D := (dC, dI)) (ci := 1) (v := .int iC_slips) (C := RX1) (T := TX1) (N := 19) hx hb hts inX1 hown hK hP 0 rfl rfl 4 (by decide) (hts _ wd_219) (fun _ h9 => h9) rfl dX1_likelihood_26 ?_
          have rg_iC_slips := fb_rng iC_slips
          obtain ⟨y_228, ey_228⟩ : ∃ z : Int64, z = (iC_slips : Int32).toInt64 := ⟨_, rfl⟩
          refine lv_i2l (v := y_228) hx hb dX1_likelihood_29 ey_228.symm ?_
          refine lv_goto (tgt := 41) hx hb dX1_likelihood_30 (by decide) ?_
          refine lv_lmul hx hb dX1_likelihood_41 ?_
          refine lv_topl (fun y_229 ey_229 => ?_)
          refine lv_lstore_n (lv' := [(2, .long y_229), (4, .int z_217), (0, .ref oC), (1, .int p0)]) hx hb dX1_likelihood_42 rfl hl (by decide) rfl (fun ls hl => ?_)
          obtain ⟨x_230, ex_230⟩ : ∃ z : Int32, z = z_217 + Int32.ofInt 1 := ⟨_, rfl⟩
          have vx_230 : x_230.toInt = z_217.toInt + 1 := by have q := ti_add (y := 1) ex_230 rfl kc_1 (by omega) (by omega); omega
          refine lv_iinc (v := x_230) (lv' := [(4, .int x_230), (2, .long y_229), (0, .ref oC), (1, .int p0)]) hx hb dX1_likelihood_43 hl (k := 1) rfl ex_230.symm (by decide) rfl (fun ls hl => ?_)
          refine lv_goto (tgt := 5) hx hb dX1_likelihood_46 (by decide) ?_
          exact ih_n_219 x_230 y_229 _ _ _  (by first | omega | decide) (by omega) (hP.sub [0] rfl) (hD.sub [0] (by decide) rfl) hS (lv_sub hl [0, 1, 2, 3] rfl)
  exact key_n_219 ((2147483647 - (0 : Int32).toInt).toNat + 1) 0 1 _ _ _  (by first | omega | decide) (by omega) hP hD hS hl
set_option maxHeartbeats 4000000 in
set_option maxRecDepth 100000 in
theorem tX1_allLikelihood (l : Launch) (dC : Nat → ClassId) (dI : Nat → Nat → Nat) (sz : Nat) (oC : Nat) (iC_nodes : Int32) (iC_words : Int32) (iC_chances : Int32) (iC_unsures : Int32) (iC_slips : Int32) (iC_throneNode : Int32) (iC_saidWorth : Int32) (iC_unit : Int32) (rC_kind : Nat) (rC_parts : Nat) (rC_partNodes : Nat) (rC_weights : Nat) (rC_weightSums : Nat) (rC_toldWorths : Nat) (rC_steps : Nat) (rC_below : Nat) (rC_above : Nat) (rC_unsureWords : Nat) (rC_unsureWorths : Nat) (b_iC_nodes : 0 ≤ iC_nodes.toInt ∧ iC_nodes.toInt ≤ 18) (b_iC_unsures : 0 ≤ iC_unsures.toInt ∧ iC_unsures.toInt ≤ 4)  : Met l yX1_allLikelihood (Cond.code yX1_allLikelihood cX1_allLikelihood 4 (some .long) :: wG) ({ frames := 0, cells := 0, slots := 0, locals := 0 }) (va_Pc [.ref oC] (Pw dC dI sz [(oC, .inr (1, [.int iC_nodes, .int iC_words, .int iC_chances, .int iC_unsures, .int iC_slips, .int iC_throneNode, .int iC_saidWorth, .int iC_unit, .ref rC_kind, .ref rC_parts, .ref rC_partNodes, .ref rC_weights, .ref rC_weightSums, .ref rC_toldWorths, .ref rC_steps, .ref rC_below, .ref rC_above, .ref rC_unsureWords, .ref rC_unsureWorths]))] [])) (va_Ql (fun (r : Int64) (_ : Nat) => True ∧ True) (fun (_ : Nat) (t : State) => Bw dC dI (va_A [(oC, .inr (1, [.int iC_nodes, .int iC_words, .int iC_chances, .int iC_unsures, .int iC_slips, .int iC_throneNode, .int iC_saidWorth, .int iC_unit, .ref rC_kind, .ref rC_parts, .ref rC_partNodes, .ref rC_weights, .ref rC_weightSums, .ref rC_toldWorths, .ref rC_steps, .ref rC_below, .ref rC_above, .ref rC_unsureWords, .ref rC_unsureWorths]))] sz) [(oC, .inr (1, [.int iC_nodes, .int iC_words, .int iC_chances, .int iC_unsures, .int iC_slips, .int iC_throneNode, .int iC_saidWorth, .int iC_unit, .ref rC_kind, .ref rC_parts, .ref rC_partNodes, .ref rC_weights, .ref rC_weightSums, .ref rC_toldWorths, .ref rC_steps, .ref rC_below, .ref rC_above, .ref rC_unsureWords, .ref rC_unsureWorths]))] [] t) (va_A [(oC, .inr (1, [.int iC_nodes, .int iC_words, .int iC_chances, .int iC_unsures, .int iC_slips, .int iC_throneNode, .int iC_saidWorth, .int iC_unit, .ref rC_kind, .ref rC_parts, .ref rC_partNodes, .ref rC_weights, .ref rC_weightSums, .ref rC_toldWorths, .ref rC_steps, .ref rC_below, .ref rC_above, .ref rC_unsureWords, .ref rC_unsureWorths]))] sz)) 0 0 (va_A [(oC, .inr (1, [.int iC_nodes, .int iC_words, .int iC_chances, .int iC_unsures, .int iC_slips, .int iC_throneNode, .int iC_saidWorth, .int iC_unit, .ref rC_kind, .ref rC_parts, .ref rC_partNodes, .ref rC_weights, .ref rC_weightSums, .ref rC_toldWorths, .ref rC_steps, .ref rC_below, .ref rC_above, .ref rC_unsureWords, .ref rC_unsureWorths]))] sz) := by
  refine Met.ofW (cc := cX1_allLikelihood) (maxL := 4) (ret := (some .long)) (by decide) rfl ?_
  intro p e s m args below meth c s₁ B hml hv
  obtain ⟨rfl, hsz, hP, hK, hD0, hE⟩ := hv
  have hx := B.exec
  have hb := B.bytes
  have hr := B.returns
  have hts : ∀ w ∈ wG, w.before ([.ref oC] : List Value).toArray s = true := fun w h => atoms_spec (ws := Cond.code yX1_allLikelihood cX1_allLikelihood 4 (some .long) :: wG) B.pre w (List.mem_cons_of_mem _ h)
  have hown : s.vm.findClass RX1 = some m.cls := findClass_of_methodNamed B.named
  have hlocks := B.notSynchronized
  subst hsz
  have hD := hD0.self (sz := s.heap.size)
  generalize hAe : va_A [(oC, .inr (1, [.int iC_nodes, .int iC_words, .int iC_chances, .int iC_unsures, .int iC_slips, .int iC_throneNode, .int iC_saidWorth, .int iC_unit, .ref rC_kind, .ref rC_parts, .ref rC_partNodes, .ref rC_weights, .ref rC_weightSums, .ref rC_toldWorths, .ref rC_steps, .ref rC_below, .ref rC_above, .ref rC_unsureWords, .ref rC_unsureWorths]))] s.heap.size = A at hD hE ⊢
  have hA : ∀ q : Nat, s.heap.size ≤ q → A q := fun q h => by rw [← hAe]; exact Or.inr h
  have hS : va_S A s.heap s.heap [] := va_S.rf
  have hl := lv_entry ([.ref oC]) (n := 4) (Nat.le_of_ble_eq_true rfl)
  rw [lg_entry_eq]
  generalize (lg_sl ([.ref oC]) ++ List.replicate (4 - (lg_sl ([.ref oC])).length) Slot.unset).toArray = ls at hl ⊢
  have hl : lv_has ls 4 [(0, .ref oC)] := hl
  refine lv_lconst (v := 1) hx hb dX1_allLikelihood_0 (by decide) ?_
  refine lv_lstore_n (lv' := [(1, .long 1), (0, .ref oC)]) hx hb dX1_allLikelihood_1 rfl hl (by decide) rfl (fun ls hl => ?_)
  refine lv_iconst (v := 0) hx hb dX1_allLikelihood_2 (by decide) ?_
  refine lv_istore_n (lv' := [(3, .int 0), (1, .long 1), (0, .ref oC)]) hx hb dX1_allLikelihood_3 rfl hl (by decide) rfl (fun ls hl => ?_)
  have hl := lv_sub hl (l' := [(3, .int 0), (1, .long 1), (0, .ref oC)]) [0, 1, 2] rfl
  have key_n_244 : ∀ (n_244 : Nat) (z_242 : Int32) (z_243 : Int64) (H : Heap) (locs : List Loc) (ls : Array Slot), (0 ≤ z_242.toInt ∧ z_242.toInt ≤ 2147483647) → (2147483647 - z_242.toInt).toNat < n_244 → va_P (dC, dI) vwCl [(oC, .inr (1, [.int iC_nodes, .int iC_words, .int iC_chances, .int iC_unsures, .int iC_slips, .int iC_throneNode, .int iC_saidWorth, .int iC_unit, .ref rC_kind, .ref rC_parts, .ref rC_partNodes, .ref rC_weights, .ref rC_weightSums, .ref rC_toldWorths, .ref rC_steps, .ref rC_below, .ref rC_above, .ref rC_unsureWords, .ref rC_unsureWorths]))] H → va_D A [(oC, .inr (1, [.int iC_nodes, .int iC_words, .int iC_chances, .int iC_unsures, .int iC_slips, .int iC_throneNode, .int iC_saidWorth, .int iC_unit, .ref rC_kind, .ref rC_parts, .ref rC_partNodes, .ref rC_weights, .ref rC_weightSums, .ref rC_toldWorths, .ref rC_steps, .ref rC_below, .ref rC_above, .ref rC_unsureWords, .ref rC_unsureWorths]))] → va_S A s.heap H locs → lv_has ls 4 [(3, .int z_242), (1, .long z_243), (0, .ref oC)] → W p l e (headSpec (Cond.code yX1_allLikelihood cX1_allLikelihood 4 (some .long) :: wG) ({ frames := 0, cells := 0, slots := 0, locals := 0 })).room s m ([.ref oC] : List Value).toArray below meth c H locs 0 0 (MQ below (va_Ql (fun (r : Int64) (_ : Nat) => True ∧ True) (fun (_ : Nat) (t : State) => Bw dC dI A [(oC, .inr (1, [.int iC_nodes, .int iC_words, .int iC_chances, .int iC_unsures, .int iC_slips, .int iC_throneNode, .int iC_saidWorth, .int iC_unit, .ref rC_kind, .ref rC_parts, .ref rC_partNodes, .ref rC_weights, .ref rC_weightSums, .ref rC_toldWorths, .ref rC_steps, .ref rC_below, .ref rC_above, .ref rC_unsureWords, .ref rC_unsureWorths]))] [] t) A) ([.ref oC] : List Value).toArray s 0 0 A) (F0 m 4 ls []) := by
    intro n_244
    induction n_244 with
    | zero => intro z_242 z_243 H locs ls hi0_n_244 hm; exact absurd hm (by omega)
    | succ n_244 ih_n_244 =>
      intro z_242 z_243 H locs ls hi0_n_244 hm hP hD hS hl
      have rg_z_242 := fb_rng z_242
      refine lv_iload_n hx hb dX1_allLikelihood_4 rfl (lv_at hl 0 rfl) ?_
      refine lv_aload_n hx hb dX1_allLikelihood_5 rfl (lv_at hl 2 rfl) ?_
      refine va_get (D := (dC, dI)) (ci := 1) (v := .int iC_unsures) (C := RX1) (T := TX1) (N := 19) hx hb hts inX1 hown hK hP 0 rfl rfl 3 (by decide) (hts _ wd_218) (fun _ h9 => h9) rfl dX1_allLikelihood_6 ?_
      have rg_iC_unsures := fb_rng iC_unsures
      refine lv_icmp_ge (tgt := 24) hx hb dX1_allLikelihood_9 (by decide) (fun c_245 => ?_) (fun c_245 => ?_)
      · skip
        have gc_245 := ti_le c_245 rfl rfl
        refine lv_lload_n hx hb dX1_allLikelihood_24 rfl (lv_at hl 1 rfl) ?_
        have hP9 := hP.sub (ws' := [(oC, .inr (1, [.int iC_nodes, .int iC_words, .int iC_chances, .int iC_unsures, .int iC_slips, .int iC_throneNode, .int iC_saidWorth, .int iC_unit, .ref rC_kind, .ref rC_parts, .ref rC_partNodes, .ref rC_weights, .ref rC_weightSums, .ref rC_toldWorths, .ref rC_steps, .ref rC_below, .ref rC_above, .ref rC_unsureWords, .ref rC_unsureWorths]))]) [0] rfl
        have hD9 := hD.sub (ws' := [(oC, .inr (1, [.int iC_nodes, .int iC_words, .int iC_chances, .int iC_unsures, .int iC_slips, .int iC_throneNode, .int iC_saidWorth, .int iC_unit, .ref rC_kind, .ref rC_parts, .ref rC_partNodes, .ref rC_weights, .ref rC_weightSums, .ref rC_toldWorths, .ref rC_steps, .ref rC_below, .ref rC_above, .ref rC_unsureWords, .ref rC_unsureWorths]))]) [0] (by decide) rfl
        have hK9 := hK.sub (tys' := []) [] rfl
        exact W.lret hx hb hr (fun t ht hW => ⟨⟨_, 0, rfl, ⟨trivial, trivial⟩, Bw.to hP9 hD9 hK9 ht hW⟩, hS.F ht⟩) hS.2.2 dX1_allLikelihood_25
      · skip
        have gc_245 := ti_nle c_245 rfl rfl
        refine lv_lload_n hx hb dX1_allLikelihood_12 rfl (lv_at hl 1 rfl) ?_
        refine lv_ldc2 hx hb hown (hts _ wd_1266) dX1_allLikelihood_13 ?_
        refine lv_lmul hx hb dX1_allLikelihood_16 ?_
        refine lv_topl (fun y_246 ey_246 => ?_)
        refine lv_lstore_n (lv' := [(1, .long y_246), (3, .int z_242), (0, .ref oC)]) hx hb dX1_allLikelihood_17 rfl hl (by decide) rfl (fun ls hl => ?_)
        obtain ⟨x_247, ex_247⟩ : ∃ z : Int32, z = z_242 + Int32.ofInt 1 := ⟨_, rfl⟩
        have vx_247 : x_247.toInt = z_242.toInt + 1 := by have q := ti_add (y := 1) ex_247 rfl kc_1 (by omega) (by omega); omega
        refine lv_iinc (v := x_247) (lv' := [(3, .int x_247), (1, .long y_246), (0, .ref oC)]) hx hb dX1_allLikelihood_18 hl (k := 1) rfl ex_247.symm (by decide) rfl (fun ls hl => ?_)
        refine lv_goto (tgt := 4) hx hb dX1_allLikelihood_21 (by decide) ?_
        exact ih_n_244 x_247 y_246 _ _ _  (by first | omega | decide) (by omega) (hP.sub [0] rfl) (hD.sub [0] (by decide) rfl) hS (lv_sub hl [0, 1, 2] rfl)
  exact key_n_244 ((2147483647 - (0 : Int32).toInt).toNat + 1) 0 1 _ _ _  (by first | omega | decide) (by omega) hP hD hS hl
