set_option maxHeartbeats 4000000 in
set_option maxRecDepth 100000 in
theorem tX1_clear (l : Launch) (dC : Nat → ClassId) (dI : Nat → Nat → Nat) (sz : Nat) (hC : Nat) (iC_nodes : Int32) (iC_words : Int32) (iC_chances : Int32) (iC_unsures : Int32) (iC_slips : Int32) (iC_throneNode : Int32) (iC_saidWorth : Int32) (iC_unit : Int32) (rC_kind : Nat) (rC_parts : Nat) (rC_partNodes : Nat) (rC_weights : Nat) (rC_weightSums : Nat) (rC_toldWorths : Nat) (rC_steps : Nat) (rC_below : Nat) (rC_above : Nat) (rC_unsureWords : Nat) (rC_unsureWorths : Nat) (b_iC_nodes : 0 ≤ iC_nodes.toInt ∧ iC_nodes.toInt ≤ 18) (b_iC_unsures : 0 ≤ iC_unsures.toInt ∧ iC_unsures.toInt ≤ 4)  : Met l yX1_clear (Cond.code yX1_clear cX1_clear 1 none :: wG) ({ frames := 0, cells := 0, slots := 0, locals := 0 }) (va_Pc [.ref hC] (Pw dC dI sz [(hC, .inr (1, [.int iC_nodes, .int iC_words, .int iC_chances, .int iC_unsures, .int iC_slips, .int iC_throneNode, .int iC_saidWorth, .int iC_unit, .ref rC_kind, .ref rC_parts, .ref rC_partNodes, .ref rC_weights, .ref rC_weightSums, .ref rC_toldWorths, .ref rC_steps, .ref rC_below, .ref rC_above, .ref rC_unsureWords, .ref rC_unsureWorths]))] [])) (va_Qv (fun (_ : Nat) => True) (fun (_ : Nat) (t : State) => ∃ (niC_nodes : Int32) (niC_words : Int32) (niC_chances : Int32) (niC_unsures : Int32) (niC_slips : Int32) (niC_throneNode : Int32) (niC_saidWorth : Int32) (niC_unit : Int32), (0 ≤ niC_nodes.toInt ∧ niC_nodes.toInt ≤ 18) ∧ (0 ≤ niC_unsures.toInt ∧ niC_unsures.toInt ≤ 4) ∧ Bw dC dI (va_A [(hC, .inr (1, [.int iC_nodes, .int iC_words, .int iC_chances, .int iC_unsures, .int iC_slips, .int iC_throneNode, .int iC_saidWorth, .int iC_unit, .ref rC_kind, .ref rC_parts, .ref rC_partNodes, .ref rC_weights, .ref rC_weightSums, .ref rC_toldWorths, .ref rC_steps, .ref rC_below, .ref rC_above, .ref rC_unsureWords, .ref rC_unsureWorths]))] sz) [(hC, .inr (1, [.int niC_nodes, .int niC_words, .int niC_chances, .int niC_unsures, .int niC_slips, .int niC_throneNode, .int niC_saidWorth, .int niC_unit, .ref rC_kind, .ref rC_parts, .ref rC_partNodes, .ref rC_weights, .ref rC_weightSums, .ref rC_toldWorths, .ref rC_steps, .ref rC_below, .ref rC_above, .ref rC_unsureWords, .ref rC_unsureWorths]))] [] t) (va_A [(hC, .inr (1, [.int iC_nodes, .int iC_words, .int iC_chances, .int iC_unsures, .int iC_slips, .int iC_throneNode, .int iC_saidWorth, .int iC_unit, .ref rC_kind, .ref rC_parts, .ref rC_partNodes, .ref rC_weights, .ref rC_weightSums, .ref rC_toldWorths, .ref rC_steps, .ref rC_below, .ref rC_above, .ref rC_unsureWords, .ref rC_unsureWorths]))] sz)) 0 0 (va_A [(hC, .inr (1, [.int iC_nodes, .int iC_words, .int iC_chances, .int iC_unsures, .int iC_slips, .int iC_throneNode, .int iC_saidWorth, .int iC_unit, .ref rC_kind, .ref rC_parts, .ref rC_partNodes, .ref rC_weights, .ref rC_weightSums, .ref rC_toldWorths, .ref rC_steps, .ref rC_below, .ref rC_above, .ref rC_unsureWords, .ref rC_unsureWorths]))] sz) := by
  refine Met.ofW (cc := cX1_clear) (maxL := 1) (ret := none) (by decide) rfl ?_
  intro p e s m args below meth c s₁ B hml hv
  obtain ⟨rfl, hsz, hP, hK, hD0, hE⟩ := hv
  have hx := B.exec
  have hb := B.bytes
  have hr := B.returns
  have hts : ∀ w ∈ wG, w.before ([.ref hC] : List Value).toArray s = true := fun w h => atoms_spec (ws := Cond.code yX1_clear cX1_clear 1 none :: wG) B.pre w (List.mem_cons_of_mem _ h)
  have hown : s.vm.findClass RX1 = some m.cls := findClass_of_methodNamed B.named
  have hlocks := B.notSynchronized
  subst hsz
  have hD := hD0.self (sz := s.heap.size)
  generalize hAe : va_A [(hC, .inr (1, [.int iC_nodes, .int iC_words, .int iC_chances, .int iC_unsures, .int iC_slips, .int iC_throneNode, .int iC_saidWorth, .int iC_unit, .ref rC_kind, .ref rC_parts, .ref rC_partNodes, .ref rC_weights, .ref rC_weightSums, .ref rC_toldWorths, .ref rC_steps, .ref rC_below, .ref rC_above, .ref rC_unsureWords, .ref rC_unsureWorths]))] s.heap.size = A at hD hE ⊢
  have hA : ∀ q : Nat, s.heap.size ≤ q → A q := fun q h => by rw [← hAe]; exact Or.inr h
  have hS : va_S A s.heap s.heap [] := va_S.rf
  have hl := lv_entry ([.ref hC]) (n := 1) (Nat.le_of_ble_eq_true rfl)
  rw [lg_entry_eq]
  generalize (lg_sl ([.ref hC]) ++ List.replicate (1 - (lg_sl ([.ref hC])).length) Slot.unset).toArray = ls at hl ⊢
  have hl : lv_has ls 1 [(0, .ref hC)] := hl
  refine lv_aload_n hx hb dX1_clear_0 rfl (lv_at hl 0 rfl) ?_
  refine lv_iconst (v := 0) hx hb dX1_clear_1 (by decide) ?_
  refine va_put (D := (dC, dI)) (ci := 1) (v := .int 0) (ty := .int) (C := RX1) (T := TX1) (N := 19) hx hb hts inX1 tyX1 tyX1_ok nmX1 hown hK hP hD hS 0 rfl rfl 0 (by decide) (hts _ wd_215) (fun _ h9 => h9) rfl (by decide +kernel) rfl rfl (Nat.le_of_ble_eq_true rfl) dX1_clear_2 (fun H locs hP hD hS => ?_)
  have hP : va_P (dC, dI) vwCl [(hC, .inr (1, [.int 0, .int iC_words, .int iC_chances, .int iC_unsures, .int iC_slips, .int iC_throneNode, .int iC_saidWorth, .int iC_unit, .ref rC_kind, .ref rC_parts, .ref rC_partNodes, .ref rC_weights, .ref rC_weightSums, .ref rC_toldWorths, .ref rC_steps, .ref rC_below, .ref rC_above, .ref rC_unsureWords, .ref rC_unsureWorths]))] H := hP
  have hD : va_D A [(hC, .inr (1, [.int 0, .int iC_words, .int iC_chances, .int iC_unsures, .int iC_slips, .int iC_throneNode, .int iC_saidWorth, .int iC_unit, .ref rC_kind, .ref rC_parts, .ref rC_partNodes, .ref rC_weights, .ref rC_weightSums, .ref rC_toldWorths, .ref rC_steps, .ref rC_below, .ref rC_above, .ref rC_unsureWords, .ref rC_unsureWorths]))] := hD
  refine lv_aload_n hx hb dX1_clear_5 rfl (lv_at hl 0 rfl) ?_
  refine lv_iconst (v := 0) hx hb dX1_clear_6 (by decide) ?_
  refine va_put (D := (dC, dI)) (ci := 1) (v := .int 0) (ty := .int) (C := RX1) (T := TX1) (N := 19) hx hb hts inX1 tyX1 tyX1_ok nmX1 hown hK hP hD hS 0 rfl rfl 1 (by decide) (hts _ wd_216) (fun _ h9 => h9) rfl (by decide +kernel) rfl rfl (Nat.le_of_ble_eq_true rfl) dX1_clear_7 (fun H locs hP hD hS => ?_)
  have hP : va_P (dC, dI) vwCl [(hC, .inr (1, [.int 0, .int 0, .int iC_chances, .int iC_unsures, .int iC_slips, .int iC_throneNode, .int iC_saidWorth, .int iC_unit, .ref rC_kind, .ref rC_parts, .ref rC_partNodes, .ref rC_weights, .ref rC_weightSums, .ref rC_toldWorths, .ref rC_steps, .ref rC_below, .ref rC_above, .ref rC_unsureWords, .ref rC_unsureWorths]))] H := hP
  have hD : va_D A [(hC, .inr (1, [.int 0, .int 0, .int iC_chances, .int iC_unsures, .int iC_slips, .int iC_throneNode, .int iC_saidWorth, .int iC_unit, .ref rC_kind, .ref rC_parts, .ref rC_partNodes, .ref rC_weights, .ref rC_weightSums, .ref rC_toldWorths, .ref rC_steps, .ref rC_below, .ref rC_above, .ref rC_unsureWords, .ref rC_unsureWorths]))] := hD
  refine lv_aload_n hx hb dX1_clear_10 rfl (lv_at hl 0 rfl) ?_
  refine lv_iconst (v := 0) hx hb dX1_clear_11 (by decide) ?_
  refine va_put (D := (dC, dI)) (ci := 1) (v := .int 0) (ty := .int) (C := RX1) (T := TX1) (N := 19) hx hb hts inX1 tyX1 tyX1_ok nmX1 hown hK hP hD hS 0 rfl rfl 2 (by decide) (hts _ wd_217) (fun _ h9 => h9) rfl (by decide +kernel) rfl rfl (Nat.le_of_ble_eq_true rfl) dX1_clear_12 (fun H locs hP hD hS => ?_)
  have hP : va_P (dC, dI) vwCl [(hC, .inr (1, [.int 0, .int 0, .int 0, .int iC_unsures, .int iC_slips, .int iC_throneNode, .int iC_saidWorth, .int iC_unit, .ref rC_kind, .ref rC_parts, .ref rC_partNodes, .ref rC_weights, .ref rC_weightSums, .ref rC_toldWorths, .ref rC_steps, .ref rC_below, .ref rC_above, .ref rC_unsureWords, .ref rC_unsureWorths]))] H := hP
  have hD : va_D A [(hC, .inr (1, [.int 0, .int 0, .int 0, .int iC_unsures, .int iC_slips, .int iC_throneNode, .int iC_saidWorth, .int iC_unit, .ref rC_kind, .ref rC_parts, .ref rC_partNodes, .ref rC_weights, .ref rC_weightSums, .ref rC_toldWorths, .ref rC_steps, .ref rC_below, .ref rC_above, .ref rC_unsureWords, .ref rC_unsureWorths]))] := hD
  refine lv_aload_n hx hb dX1_clear_15 rfl (lv_at hl 0 rfl) ?_
  refine lv_iconst (v := 0) hx hb dX1_clear_16 (by decide) ?_
  refine va_put (D := (dC, dI)) (ci := 1) (v := .int 0) (ty := .int) (C := RX1) (T := TX1) (N := 19) hx hb hts inX1 tyX1 tyX1_ok nmX1 hown hK hP hD hS 0 rfl rfl 3 (by decide) (hts _ wd_218) (fun _ h9 => h9) rfl (by decide +kernel) rfl rfl (Nat.le_of_ble_eq_true rfl) dX1_clear_17 (fun H locs hP hD hS => ?_)
  have hP : va_P (dC, dI) vwCl [(hC, .inr (1, [.int 0, .int 0, .int 0, .int 0, .int iC_slips, .int iC_throneNode, .int iC_saidWorth, .int iC_unit, .ref rC_kind, .ref rC_parts, .ref rC_partNodes, .ref rC_weights, .ref rC_weightSums, .ref rC_toldWorths, .ref rC_steps, .ref rC_below, .ref rC_above, .ref rC_unsureWords, .ref rC_unsureWorths]))] H := hP
  have hD : va_D A [(hC, .inr (1, [.int 0, .int 0, .int 0, .int 0, .int iC_slips, .int iC_throneNode, .int iC_saidWorth, .int iC_unit, .ref rC_kind, .ref rC_parts, .ref rC_partNodes, .ref rC_weights, .ref rC_weightSums, .ref rC_toldWorths, .ref rC_steps, .ref rC_below, .ref rC_above, .ref rC_unsureWords, .ref rC_unsureWorths]))] := hD
  refine lv_aload_n hx hb dX1_clear_20 rfl (lv_at hl 0 rfl) ?_
  refine lv_iconst (v := 0) hx hb dX1_clear_21 (by decide) ?_
  refine va_put (D := (dC, dI)) (ci := 1) (v := .int 0) (ty := .int) (C := RX1) (T := TX1) (N := 19) hx hb hts inX1 tyX1 tyX1_ok nmX1 hown hK hP hD hS 0 rfl rfl 4 (by decide) (hts _ wd_219) (fun _ h9 => h9) rfl (by decide +kernel) rfl rfl (Nat.le_of_ble_eq_true rfl) dX1_clear_22 (fun H locs hP hD hS => ?_)
  have hP : va_P (dC, dI) vwCl [(hC, .inr (1, [.int 0, .int 0, .int 0, .int 0, .int 0, .int iC_throneNode, .int iC_saidWorth, .int iC_unit, .ref rC_kind, .ref rC_parts, .ref rC_partNodes, .ref rC_weights, .ref rC_weightSums, .ref rC_toldWorths, .ref rC_steps, .ref rC_below, .ref rC_above, .ref rC_unsureWords, .ref rC_unsureWorths]))] H := hP
  have hD : va_D A [(hC, .inr (1, [.int 0, .int 0, .int 0, .int 0, .int 0, .int iC_throneNode, .int iC_saidWorth, .int iC_unit, .ref rC_kind, .ref rC_parts, .ref rC_partNodes, .ref rC_weights, .ref rC_weightSums, .ref rC_toldWorths, .ref rC_steps, .ref rC_below, .ref rC_above, .ref rC_unsureWords, .ref rC_unsureWorths]))] := hD
  refine lv_aload_n hx hb dX1_clear_25 rfl (lv_at hl 0 rfl) ?_
  refine lv_iconst (v := (-1)) hx hb dX1_clear_26 (by decide) ?_
  refine va_put (D := (dC, dI)) (ci := 1) (v := .int (-1)) (ty := .int) (C := RX1) (T := TX1) (N := 19) hx hb hts inX1 tyX1 tyX1_ok nmX1 hown hK hP hD hS 0 rfl rfl 5 (by decide) (hts _ wd_66) (fun _ h9 => h9) rfl (by decide +kernel) rfl rfl (Nat.le_of_ble_eq_true rfl) dX1_clear_27 (fun H locs hP hD hS => ?_)
  have hP : va_P (dC, dI) vwCl [(hC, .inr (1, [.int 0, .int 0, .int 0, .int 0, .int 0, .int (-1), .int iC_saidWorth, .int iC_unit, .ref rC_kind, .ref rC_parts, .ref rC_partNodes, .ref rC_weights, .ref rC_weightSums, .ref rC_toldWorths, .ref rC_steps, .ref rC_below, .ref rC_above, .ref rC_unsureWords, .ref rC_unsureWorths]))] H := hP
  have hD : va_D A [(hC, .inr (1, [.int 0, .int 0, .int 0, .int 0, .int 0, .int (-1), .int iC_saidWorth, .int iC_unit, .ref rC_kind, .ref rC_parts, .ref rC_partNodes, .ref rC_weights, .ref rC_weightSums, .ref rC_toldWorths, .ref rC_steps, .ref rC_below, .ref rC_above, .ref rC_unsureWords, .ref rC_unsureWorths]))] := hD
  refine lv_aload_n hx hb dX1_clear_30 rfl (lv_at hl 0 rfl) ?_
  refine lv_iconst (v := (-1)) hx hb dX1_clear_31 (by decide) ?_
  refine va_put (D := (dC, dI)) (ci := 1) (v := .int (-1)) (ty := .int) (C := RX1) (T := TX1) (N := 19) hx hb hts inX1 tyX1 tyX1_ok nmX1 hown hK hP hD hS 0 rfl rfl 6 (by decide) (hts _ wd_65) (fun _ h9 => h9) rfl (by decide +kernel) rfl rfl (Nat.le_of_ble_eq_true rfl) dX1_clear_32 (fun H locs hP hD hS => ?_)
  have hP : va_P (dC, dI) vwCl [(hC, .inr (1, [.int 0, .int 0, .int 0, .int 0, .int 0, .int (-1), .int (-1), .int iC_unit, .ref rC_kind, .ref rC_parts, .ref rC_partNodes, .ref rC_weights, .ref rC_weightSums, .ref rC_toldWorths, .ref rC_steps, .ref rC_below, .ref rC_above, .ref rC_unsureWords, .ref rC_unsureWorths]))] H := hP
  have hD : va_D A [(hC, .inr (1, [.int 0, .int 0, .int 0, .int 0, .int 0, .int (-1), .int (-1), .int iC_unit, .ref rC_kind, .ref rC_parts, .ref rC_partNodes, .ref rC_weights, .ref rC_weightSums, .ref rC_toldWorths, .ref rC_steps, .ref rC_below, .ref rC_above, .ref rC_unsureWords, .ref rC_unsureWorths]))] := hD
  refine lv_aload_n hx hb dX1_clear_35 rfl (lv_at hl 0 rfl) ?_
  refine lv_iconst (v := 1) hx hb dX1_clear_36 (by decide) ?_
  refine va_put (D := (dC, dI)) (ci := 1) (v := .int 1) (ty := .int) (C := RX1) (T := TX1) (N := 19) hx hb hts inX1 tyX1 tyX1_ok nmX1 hown hK hP hD hS 0 rfl rfl 7 (by decide) (hts _ wd_67) (fun _ h9 => h9) rfl (by decide +kernel) rfl rfl (Nat.le_of_ble_eq_true rfl) dX1_clear_37 (fun H locs hP hD hS => ?_)
  have hP : va_P (dC, dI) vwCl [(hC, .inr (1, [.int 0, .int 0, .int 0, .int 0, .int 0, .int (-1), .int (-1), .int 1, .ref rC_kind, .ref rC_parts, .ref rC_partNodes, .ref rC_weights, .ref rC_weightSums, .ref rC_toldWorths, .ref rC_steps, .ref rC_below, .ref rC_above, .ref rC_unsureWords, .ref rC_unsureWorths]))] H := hP
  have hD : va_D A [(hC, .inr (1, [.int 0, .int 0, .int 0, .int 0, .int 0, .int (-1), .int (-1), .int 1, .ref rC_kind, .ref rC_parts, .ref rC_partNodes, .ref rC_weights, .ref rC_weightSums, .ref rC_toldWorths, .ref rC_steps, .ref rC_below, .ref rC_above, .ref rC_unsureWords, .ref rC_unsureWorths]))] := hD
  have hP9 := hP.sub (ws' := [(hC, .inr (1, [.int 0, .int 0, .int 0, .int 0, .int 0, .int (-1), .int (-1), .int 1, .ref rC_kind, .ref rC_parts, .ref rC_partNodes, .ref rC_weights, .ref rC_weightSums, .ref rC_toldWorths, .ref rC_steps, .ref rC_below, .ref rC_above, .ref rC_unsureWords, .ref rC_unsureWorths]))]) [0] rfl
  have hD9 := hD.sub (ws' := [(hC, .inr (1, [.int 0, .int 0, .int 0, .int 0, .int 0, .int (-1), .int (-1), .int 1, .ref rC_kind, .ref rC_parts, .ref rC_partNodes, .ref rC_weights, .ref rC_weightSums, .ref rC_toldWorths, .ref rC_steps, .ref rC_below, .ref rC_above, .ref rC_unsureWords, .ref rC_unsureWorths]))]) [0] (by decide) rfl
  have hK9 := hK.sub (tys' := []) [] rfl
  exact W.vret hx hb hr (fun t ht hW => ⟨⟨0, rfl, trivial, ⟨0, 0, 0, 0, 0, (-1), (-1), 1, (by decide), (by decide), Bw.to hP9 hD9 hK9 ht hW⟩⟩, hS.F ht⟩) hS.2.2 dX1_clear_40
set_option maxHeartbeats 4000000 in
set_option maxRecDepth 100000 in
theorem tX1_hasNode (l : Launch) (dC : Nat → ClassId) (dI : Nat → Nat → Nat) (sz : Nat) (hC : Nat) (iC_nodes : Int32) (iC_words : Int32) (iC_chances : Int32) (iC_unsures : Int32) (iC_slips : Int32) (iC_throneNode : Int32) (iC_saidWorth : Int32) (iC_unit : Int32) (rC_kind : Nat) (rC_parts : Nat) (rC_partNodes : Nat) (rC_weights : Nat) (rC_weightSums : Nat) (rC_toldWorths : Nat) (rC_steps : Nat) (rC_below : Nat) (rC_above : Nat) (rC_unsureWords : Nat) (rC_unsureWorths : Nat) (p0 : Int32) (b_iC_nodes : 0 ≤ iC_nodes.toInt ∧ iC_nodes.toInt ≤ 18) (b_iC_unsures : 0 ≤ iC_unsures.toInt ∧ iC_unsures.toInt ≤ 4)  : Met l yX1_hasNode (Cond.code yX1_hasNode cX1_hasNode 2 (some .boolean) :: wG) ({ frames := 0, cells := 0, slots := 0, locals := 0 }) (va_Pc [.ref hC, .int p0] (Pw dC dI sz [(hC, .inr (1, [.int iC_nodes, .int iC_words, .int iC_chances, .int iC_unsures, .int iC_slips, .int iC_throneNode, .int iC_saidWorth, .int iC_unit, .ref rC_kind, .ref rC_parts, .ref rC_partNodes, .ref rC_weights, .ref rC_weightSums, .ref rC_toldWorths, .ref rC_steps, .ref rC_below, .ref rC_above, .ref rC_unsureWords, .ref rC_unsureWorths]))] [])) (va_Qi (fun (r : Int32) (_ : Nat) => (r = 0 ∨ r = 1) ∧ ((r = 1 ∧ 0 ≤ p0.toInt ∧ p0.toInt < iC_nodes.toInt) ∨ (r = 0 ∧ True))) (fun (_ : Nat) (t : State) => Bw dC dI (va_A [(hC, .inr (1, [.int iC_nodes, .int iC_words, .int iC_chances, .int iC_unsures, .int iC_slips, .int iC_throneNode, .int iC_saidWorth, .int iC_unit, .ref rC_kind, .ref rC_parts, .ref rC_partNodes, .ref rC_weights, .ref rC_weightSums, .ref rC_toldWorths, .ref rC_steps, .ref rC_below, .ref rC_above, .ref rC_unsureWords, .ref rC_unsureWorths]))] sz) [(hC, .inr (1, [.int iC_nodes, .int iC_words, .int iC_chances, .int iC_unsures, .int iC_slips, .int iC_throneNode, .int iC_saidWorth, .int iC_unit, .ref rC_kind, .ref rC_parts, .ref rC_partNodes, .ref rC_weights, .ref rC_weightSums, .ref rC_toldWorths, .ref rC_steps, .ref rC_below, .ref rC_above, .ref rC_unsureWords, .ref rC_unsureWorths]))] [] t) (va_A [(hC, .inr (1, [.int iC_nodes, .int iC_words, .int iC_chances, .int iC_unsures, .int iC_slips, .int iC_throneNode, .int iC_saidWorth, .int iC_unit, .ref rC_kind, .ref rC_parts, .ref rC_partNodes, .ref rC_weights, .ref rC_weightSums, .ref rC_toldWorths, .ref rC_steps, .ref rC_below, .ref rC_above, .ref rC_unsureWords, .ref rC_unsureWorths]))] sz)) 0 0 (va_A [(hC, .inr (1, [.int iC_nodes, .int iC_words, .int iC_chances, .int iC_unsures, .int iC_slips, .int iC_throneNode, .int iC_saidWorth, .int iC_unit, .ref rC_kind, .ref rC_parts, .ref rC_partNodes, .ref rC_weights, .ref rC_weightSums, .ref rC_toldWorths, .ref rC_steps, .ref rC_below, .ref rC_above, .ref rC_unsureWords, .ref rC_unsureWorths]))] sz) := by
  refine Met.ofW (cc := cX1_hasNode) (maxL := 2) (ret := (some .boolean)) (by decide) rfl ?_
  intro p e s m args below meth c s₁ B hml hv
  obtain ⟨rfl, hsz, hP, hK, hD0, hE⟩ := hv
  have hx := B.exec
  have hb := B.bytes
  have hr := B.returns
  have hts : ∀ w ∈ wG, w.before ([.ref hC, .int p0] : List Value).toArray s = true := fun w h => atoms_spec (ws := Cond.code yX1_hasNode cX1_hasNode 2 (some .boolean) :: wG) B.pre w (List.mem_cons_of_mem _ h)
  have hown : s.vm.findClass RX1 = some m.cls := findClass_of_methodNamed B.named
  have hlocks := B.notSynchronized
  subst hsz
  have hD := hD0.self (sz := s.heap.size)
  generalize hAe : va_A [(hC, .inr (1, [.int iC_nodes, .int iC_words, .int iC_chances, .int iC_unsures, .int iC_slips, .int iC_throneNode, .int iC_saidWorth, .int iC_unit, .ref rC_kind, .ref rC_parts, .ref rC_partNodes, .ref rC_weights, .ref rC_weightSums, .ref rC_toldWorths, .ref rC_steps, .ref rC_below, .ref rC_above, .ref rC_unsureWords, .ref rC_unsureWorths]))] s.heap.size = A at hD hE ⊢
  have hA : ∀ q : Nat, s.heap.size ≤ q → A q := fun q h => by rw [← hAe]; exact Or.inr h
  have hS : va_S A s.heap s.heap [] := va_S.rf
  have hl := lv_entry ([.ref hC, .int p0]) (n := 2) (Nat.le_of_ble_eq_true rfl)
  rw [lg_entry_eq]
  generalize (lg_sl ([.ref hC, .int p0]) ++ List.replicate (2 - (lg_sl ([.ref hC, .int p0])).length) Slot.unset).toArray = ls at hl ⊢
  have hl : lv_has ls 2 [(0, .ref hC), (1, .int p0)] := hl
  have rg_p0 := fb_rng p0
  refine lv_iload_n hx hb dX1_hasNode_0 rfl (lv_at hl 1 rfl) ?_
  refine lv_if_lt (tgt := 16) hx hb dX1_hasNode_1 (by decide) (fun c_3 => ?_) (fun c_3 => ?_)
  · skip
    have gc_3 := ti_lt c_3 rfl kc_0
    refine lv_iconst (v := 0) hx hb dX1_hasNode_16 (by decide) ?_
    have hP9 := hP.sub (ws' := [(hC, .inr (1, [.int iC_nodes, .int iC_words, .int iC_chances, .int iC_unsures, .int iC_slips, .int iC_throneNode, .int iC_saidWorth, .int iC_unit, .ref rC_kind, .ref rC_parts, .ref rC_partNodes, .ref rC_weights, .ref rC_weightSums, .ref rC_toldWorths, .ref rC_steps, .ref rC_below, .ref rC_above, .ref rC_unsureWords, .ref rC_unsureWorths]))]) [0] rfl
    have hD9 := hD.sub (ws' := [(hC, .inr (1, [.int iC_nodes, .int iC_words, .int iC_chances, .int iC_unsures, .int iC_slips, .int iC_throneNode, .int iC_saidWorth, .int iC_unit, .ref rC_kind, .ref rC_parts, .ref rC_partNodes, .ref rC_weights, .ref rC_weightSums, .ref rC_toldWorths, .ref rC_steps, .ref rC_below, .ref rC_above, .ref rC_unsureWords, .ref rC_unsureWorths]))]) [0] (by decide) rfl
    have hK9 := hK.sub (tys' := []) [] rfl
    exact W.zret (v := 0) hx hb hr rfl (fun t ht hW => ⟨⟨_, 0, rfl, ⟨Or.inl rfl, (Or.inr (⟨rfl, by first | trivial | omega⟩))⟩, Bw.to hP9 hD9 hK9 ht hW⟩, hS.F ht⟩) hS.2.2 dX1_hasNode_17
  · skip
    have gc_3 := ti_nlt c_3 rfl kc_0
    refine lv_iload_n hx hb dX1_hasNode_4 rfl (lv_at hl 1 rfl) ?_
    refine lv_aload_n hx hb dX1_hasNode_5 rfl (lv_at hl 0 rfl) ?_
    refine va_get (D := (dC, dI)) (ci := 1) (v := .int iC_nodes) (C := RX1) (T := TX1) (N := 19) hx hb hts inX1 hown hK hP 0 rfl rfl 0 (by decide) (hts _ wd_215) (fun _ h9 => h9) rfl dX1_hasNode_6 ?_
    have rg_iC_nodes := fb_rng iC_nodes
    refine lv_icmp_ge (tgt := 16) hx hb dX1_hasNode_9 (by decide) (fun c_4 => ?_) (fun c_4 => ?_)
    · skip
      have gc_4 := ti_le c_4 rfl rfl
      refine lv_iconst (v := 0) hx hb dX1_hasNode_16 (by decide) ?_
      have hP9 := hP.sub (ws' := [(hC, .inr (1, [.int iC_nodes, .int iC_words, .int iC_chances, .int iC_unsures, .int iC_slips, .int iC_throneNode, .int iC_saidWorth, .int iC_unit, .ref rC_kind, .ref rC_parts, .ref rC_partNodes, .ref rC_weights, .ref rC_weightSums, .ref rC_toldWorths, .ref rC_steps, .ref rC_below, .ref rC_above, .ref rC_unsureWords, .ref rC_unsureWorths]))]) [0] rfl
      have hD9 := hD.sub (ws' := [(hC, .inr (1, [.int iC_nodes, .int iC_words, .int iC_chances, .int iC_unsures, .int iC_slips, .int iC_throneNode, .int iC_saidWorth, .int iC_unit, .ref rC_kind, .ref rC_parts, .ref rC_partNodes, .ref rC_weights, .ref rC_weightSums, .ref rC_toldWorths, .ref rC_steps, .ref rC_below, .ref rC_above, .ref rC_unsureWords, .ref rC_unsureWorths]))]) [0] (by decide) rfl
      have hK9 := hK.sub (tys' := []) [] rfl
      exact W.zret (v := 0) hx hb hr rfl (fun t ht hW => ⟨⟨_, 0, rfl, ⟨Or.inl rfl, (Or.inr (⟨rfl, by first | trivial | omega⟩))⟩, Bw.to hP9 hD9 hK9 ht hW⟩, hS.F ht⟩) hS.2.2 dX1_hasNode_17
    · skip
      have gc_4 := ti_nle c_4 rfl rfl
      refine lv_iconst (v := 1) hx hb dX1_hasNode_12 (by decide) ?_
      refine lv_goto (tgt := 17) hx hb dX1_hasNode_13 (by decide) ?_
      have hP9 := hP.sub (ws' := [(hC, .inr (1, [.int iC_nodes, .int iC_words, .int iC_chances, .int iC_unsures, .int iC_slips, .int iC_throneNode, .int iC_saidWorth, .int iC_unit, .ref rC_kind, .ref rC_parts, .ref rC_partNodes, .ref rC_weights, .ref rC_weightSums, .ref rC_toldWorths, .ref rC_steps, .ref rC_below, .ref rC_above, .ref rC_unsureWords, .ref rC_unsureWorths]))]) [0] rfl
      have hD9 := hD.sub (ws' := [(hC, .inr (1, [.int iC_nodes, .int iC_words, .int iC_chances, .int iC_unsures, .int iC_slips, .int iC_throneNode, .int iC_saidWorth, .int iC_unit, .ref rC_kind, .ref rC_parts, .ref rC_partNodes, .ref rC_weights, .ref rC_weightSums, .ref rC_toldWorths, .ref rC_steps, .ref rC_below, .ref rC_above, .ref rC_unsureWords, .ref rC_unsureWorths]))]) [0] (by decide) rfl
      have hK9 := hK.sub (tys' := []) [] rfl
      exact W.zret (v := 1) hx hb hr rfl (fun t ht hW => ⟨⟨_, 0, rfl, ⟨Or.inr rfl, (Or.inl ⟨rfl, by first | trivial | omega⟩)⟩, Bw.to hP9 hD9 hK9 ht hW⟩, hS.F ht⟩) hS.2.2 dX1_hasNode_17
set_option maxHeartbeats 4000000 in
set_option maxRecDepth 100000 in
theorem tX1_hasWord (l : Launch) (dC : Nat → ClassId) (dI : Nat → Nat → Nat) (sz : Nat) (hC : Nat) (iC_nodes : Int32) (iC_words : Int32) (iC_chances : Int32) (iC_unsures : Int32) (iC_slips : Int32) (iC_throneNode : Int32) (iC_saidWorth : Int32) (iC_unit : Int32) (rC_kind : Nat) (fC_kind : Nat → Int32) (kC_kind : ClassId) (rC_parts : Nat) (rC_partNodes : Nat) (rC_weights : Nat) (rC_weightSums : Nat) (rC_toldWorths : Nat) (rC_steps : Nat) (rC_below : Nat) (rC_above : Nat) (rC_unsureWords : Nat) (rC_unsureWorths : Nat) (p0 : Int32) (b_iC_nodes : 0 ≤ iC_nodes.toInt ∧ iC_nodes.toInt ≤ 18) (b_iC_unsures : 0 ≤ iC_unsures.toInt ∧ iC_unsures.toInt ≤ 4)  : Met l yX1_hasWord (Cond.code yX1_hasWord cX1_hasWord 2 (some .boolean) :: wG) ({ frames := 1, cells := 0, slots := 0, locals := 21 }) (va_Pc [.ref hC, .int p0] (Pw dC dI sz [(hC, .inr (1, [.int iC_nodes, .int iC_words, .int iC_chances, .int iC_unsures, .int iC_slips, .int iC_throneNode, .int iC_saidWorth, .int iC_unit, .ref rC_kind, .ref rC_parts, .ref rC_partNodes, .ref rC_weights, .ref rC_weightSums, .ref rC_toldWorths, .ref rC_steps, .ref rC_below, .ref rC_above, .ref rC_unsureWords, .ref rC_unsureWorths])), (rC_kind, .inl (kC_kind, 18, .inl fC_kind))] [(kC_kind, .int)])) (va_Qi (fun (r : Int32) (_ : Nat) => (r = 0 ∨ r = 1) ∧ ((r = 1 ∧ 0 ≤ p0.toInt ∧ p0.toInt < iC_nodes.toInt) ∨ (r = 0 ∧ True))) (fun (_ : Nat) (t : State) => Bw dC dI (va_A [(hC, .inr (1, [.int iC_nodes, .int iC_words, .int iC_chances, .int iC_unsures, .int iC_slips, .int iC_throneNode, .int iC_saidWorth, .int iC_unit, .ref rC_kind, .ref rC_parts, .ref rC_partNodes, .ref rC_weights, .ref rC_weightSums, .ref rC_toldWorths, .ref rC_steps, .ref rC_below, .ref rC_above, .ref rC_unsureWords, .ref rC_unsureWorths])), (rC_kind, .inl (kC_kind, 18, .inl fC_kind))] sz) [(hC, .inr (1, [.int iC_nodes, .int iC_words, .int iC_chances, .int iC_unsures, .int iC_slips, .int iC_throneNode, .int iC_saidWorth, .int iC_unit, .ref rC_kind, .ref rC_parts, .ref rC_partNodes, .ref rC_weights, .ref rC_weightSums, .ref rC_toldWorths, .ref rC_steps, .ref rC_below, .ref rC_above, .ref rC_unsureWords, .ref rC_unsureWorths])), (rC_kind, .inl (kC_kind, 18, .inl fC_kind))] [(kC_kind, .int)] t) (va_A [(hC, .inr (1, [.int iC_nodes, .int iC_words, .int iC_chances, .int iC_unsures, .int iC_slips, .int iC_throneNode, .int iC_saidWorth, .int iC_unit, .ref rC_kind, .ref rC_parts, .ref rC_partNodes, .ref rC_weights, .ref rC_weightSums, .ref rC_toldWorths, .ref rC_steps, .ref rC_below, .ref rC_above, .ref rC_unsureWords, .ref rC_unsureWorths])), (rC_kind, .inl (kC_kind, 18, .inl fC_kind))] sz)) 0 0 (va_A [(hC, .inr (1, [.int iC_nodes, .int iC_words, .int iC_chances, .int iC_unsures, .int iC_slips, .int iC_throneNode, .int iC_saidWorth, .int iC_unit, .ref rC_kind, .ref rC_parts, .ref rC_partNodes, .ref rC_weights, .ref rC_weightSums, .ref rC_toldWorths, .ref rC_steps, .ref rC_below, .ref rC_above, .ref rC_unsureWords, .ref rC_unsureWorths])), (rC_kind, .inl (kC_kind, 18, .inl fC_kind))] sz) := by
  refine Met.ofW (cc := cX1_hasWord) (maxL := 2) (ret := (some .boolean)) (by decide) rfl ?_
  intro p e s m args below meth c s₁ B hml hv
  obtain ⟨rfl, hsz, hP, hK, hD0, hE⟩ := hv
  have hx := B.exec
  have hb := B.bytes
  have hr := B.returns
  have hts : ∀ w ∈ wG, w.before ([.ref hC, .int p0] : List Value).toArray s = true := fun w h => atoms_spec (ws := Cond.code yX1_hasWord cX1_hasWord 2 (some .boolean) :: wG) B.pre w (List.mem_cons_of_mem _ h)
  have hown : s.vm.findClass RX1 = some m.cls := findClass_of_methodNamed B.named
  have hlocks := B.notSynchronized
  subst hsz
  have hD := hD0.self (sz := s.heap.size)
  generalize hAe : va_A [(hC, .inr (1, [.int iC_nodes, .int iC_words, .int iC_chances, .int iC_unsures, .int iC_slips, .int iC_throneNode, .int iC_saidWorth, .int iC_unit, .ref rC_kind, .ref rC_parts, .ref rC_partNodes, .ref rC_weights, .ref rC_weightSums, .ref rC_toldWorths, .ref rC_steps, .ref rC_below, .ref rC_above, .ref rC_unsureWords, .ref rC_unsureWorths])), (rC_kind, .inl (kC_kind, 18, .inl fC_kind))] s.heap.size = A at hD hE ⊢
  have hA : ∀ q : Nat, s.heap.size ≤ q → A q := fun q h => by rw [← hAe]; exact Or.inr h
  have hS : va_S A s.heap s.heap [] := va_S.rf
  have hl := lv_entry ([.ref hC, .int p0]) (n := 2) (Nat.le_of_ble_eq_true rfl)
  rw [lg_entry_eq]
  generalize (lg_sl ([.ref hC, .int p0]) ++ List.replicate (2 - (lg_sl ([.ref hC, .int p0])).length) Slot.unset).toArray = ls at hl ⊢
  have hl : lv_has ls 2 [(0, .ref hC), (1, .int p0)] := hl
  have rg_p0 := fb_rng p0
  refine lv_aload_n hx hb dX1_hasWord_0 rfl (lv_at hl 0 rfl) ?_
  refine lv_iload_n hx hb dX1_hasWord_1 rfl (lv_at hl 1 rfl) ?_
  have hPc := hP.sub (ws' := [(hC, .inr (1, [.int iC_nodes, .int iC_words, .int iC_chances, .int iC_unsures, .int iC_slips, .int iC_throneNode, .int iC_saidWorth, .int iC_unit, .ref rC_kind, .ref rC_parts, .ref rC_partNodes, .ref rC_weights, .ref rC_weightSums, .ref rC_toldWorths, .ref rC_steps, .ref rC_below, .ref rC_above, .ref rC_unsureWords, .ref rC_unsureWorths]))]) [0] rfl
  have hDc := hD.sub (ws' := [(hC, .inr (1, [.int iC_nodes, .int iC_words, .int iC_chances, .int iC_unsures, .int iC_slips, .int iC_throneNode, .int iC_saidWorth, .int iC_unit, .ref rC_kind, .ref rC_parts, .ref rC_partNodes, .ref rC_weights, .ref rC_weightSums, .ref rC_toldWorths, .ref rC_steps, .ref rC_below, .ref rC_above, .ref rC_unsureWords, .ref rC_unsureWorths]))]) [0] (by decide) rfl
  have hKc := hK.sub (tys' := []) [] rfl
  have hFc := va_free (wc := [(hC, .inr (1, [.int iC_nodes, .int iC_words, .int iC_chances, .int iC_unsures, .int iC_slips, .int iC_throneNode, .int iC_saidWorth, .int iC_unit, .ref rC_kind, .ref rC_parts, .ref rC_partNodes, .ref rC_weights, .ref rC_weightSums, .ref rC_toldWorths, .ref rC_steps, .ref rC_below, .ref rC_above, .ref rC_unsureWords, .ref rC_unsureWorths]))]) hD hS hA [0] rfl
  refine va_calli (va_runV (As := [.int p0]) (rest := []) ⟨hx, hb, hml, hown, hts⟩ (tX1_hasNode l dC dI _ hC iC_nodes iC_words iC_chances iC_unsures iC_slips iC_throneNode iC_saidWorth iC_unit rC_kind rC_parts rC_partNodes rC_weights rC_weightSums rC_toldWorths rC_steps rC_below rC_above rC_unsureWords rC_unsureWorths p0 (by first | omega | decide) (by first | omega | decide)) (cwV 1 hts (wd_V wd_322 wd_323 wd_324 wd_19 (wd_c wd_325)) rfl rfl rfl (by decide +kernel) ⟨Nat.le_of_ble_eq_true rfl, Nat.le_of_ble_eq_true rfl⟩) ⟨Pw.fb, va_recv hKc hPc (ci := 1) (q0 := 0) rfl rfl, fun U hU hW => Pw.to hPc hDc hKc hE hS hFc hU hW⟩ rfl rfl hl.1 rfl (lv_room (Nat.le_of_ble_eq_true rfl)) dX1_hasWord_2 ⟨Nat.le_of_ble_eq_true rfl, Nat.le_of_ble_eq_true rfl⟩) hS (fun q _ h => hFc q h) hFc (fun r u t H locs ht hvm hw hB hz1 hk1 hS => ?_)
  obtain ⟨hP, hD, hK⟩ := Bw.back (wc := [(hC, .inr (1, [.int iC_nodes, .int iC_words, .int iC_chances, .int iC_unsures, .int iC_slips, .int iC_throneNode, .int iC_saidWorth, .int iC_unit, .ref rC_kind, .ref rC_parts, .ref rC_partNodes, .ref rC_weights, .ref rC_weightSums, .ref rC_toldWorths, .ref rC_steps, .ref rC_below, .ref rC_above, .ref rC_unsureWords, .ref rC_unsureWorths]))]) (wr := [(rC_kind, .inl (kC_kind, 18, .inl fC_kind))]) (tyr := [(kC_kind, .int)]) hB rfl ht hvm hP hD hK [0] [1] rfl rfl (by decide) (by decide) [0] rfl hk1 hFc
  have hP : va_P (dC, dI) vwCl [(rC_kind, .inl (kC_kind, 18, .inl fC_kind)), (hC, .inr (1, [.int iC_nodes, .int iC_words, .int iC_chances, .int iC_unsures, .int iC_slips, .int iC_throneNode, .int iC_saidWorth, .int iC_unit, .ref rC_kind, .ref rC_parts, .ref rC_partNodes, .ref rC_weights, .ref rC_weightSums, .ref rC_toldWorths, .ref rC_steps, .ref rC_below, .ref rC_above, .ref rC_unsureWords, .ref rC_unsureWorths]))] H := hP
  have hD : va_D A [(rC_kind, .inl (kC_kind, 18, .inl fC_kind)), (hC, .inr (1, [.int iC_nodes, .int iC_words, .int iC_chances, .int iC_unsures, .int iC_slips, .int iC_throneNode, .int iC_saidWorth, .int iC_unit, .ref rC_kind, .ref rC_parts, .ref rC_partNodes, .ref rC_weights, .ref rC_weightSums, .ref rC_toldWorths, .ref rC_steps, .ref rC_below, .ref rC_above, .ref rC_unsureWords, .ref rC_unsureWorths]))] := hD
  have hK : va_K (dC, dI) vwCl [(kC_kind, .int)] s := hK
  rcases hw.2 with ⟨rfl, hc_10⟩ | ⟨rfl, hc_10⟩
  · skip
    have rg_iC_nodes := fb_rng iC_nodes
    refine lv_if_eq (tgt := 21) hx hb dX1_hasWord_5 (by decide) (fun c => absurd c (by decide)) (fun _ => ?_)
    refine lv_aload_n hx hb dX1_hasWord_8 rfl (lv_at hl 0 rfl) ?_
    refine va_get (D := (dC, dI)) (ci := 1) (v := .ref rC_kind) (C := RX1) (T := TX1) (N := 19) hx hb hts inX1 hown hK hP 1 rfl rfl 8 (by decide) (hts _ wd_54) (fun _ h9 => h9) rfl dX1_hasWord_9 ?_
    refine lv_iload_n hx hb dX1_hasWord_12 rfl (lv_at hl 1 rfl) ?_
    refine va_iald hx hb hK hP 0 0 rfl rfl (ti_in rfl (by omega) (by omega)) dX1_hasWord_13 ?_
    refine lv_topi (fun x_12 ex_12 => ?_)
    have rg_x_12 := fb_rng x_12
    refine lv_if_ne (tgt := 21) hx hb dX1_hasWord_14 (by decide) (fun c_13 => ?_) (fun c_13 => ?_)
    · skip
      have gc_13 := ti_ne c_13 rfl kc_0
      refine lv_iconst (v := 0) hx hb dX1_hasWord_21 (by decide) ?_
      have hP9 := hP.sub (ws' := [(hC, .inr (1, [.int iC_nodes, .int iC_words, .int iC_chances, .int iC_unsures, .int iC_slips, .int iC_throneNode, .int iC_saidWorth, .int iC_unit, .ref rC_kind, .ref rC_parts, .ref rC_partNodes, .ref rC_weights, .ref rC_weightSums, .ref rC_toldWorths, .ref rC_steps, .ref rC_below, .ref rC_above, .ref rC_unsureWords, .ref rC_unsureWorths])), (rC_kind, .inl (kC_kind, 18, .inl fC_kind))]) [1, 0] rfl
      have hD9 := hD.sub (ws' := [(hC, .inr (1, [.int iC_nodes, .int iC_words, .int iC_chances, .int iC_unsures, .int iC_slips, .int iC_throneNode, .int iC_saidWorth, .int iC_unit, .ref rC_kind, .ref rC_parts, .ref rC_partNodes, .ref rC_weights, .ref rC_weightSums, .ref rC_toldWorths, .ref rC_steps, .ref rC_below, .ref rC_above, .ref rC_unsureWords, .ref rC_unsureWorths])), (rC_kind, .inl (kC_kind, 18, .inl fC_kind))]) [1, 0] (by decide) rfl
      have hK9 := hK.sub (tys' := [(kC_kind, .int)]) [0] rfl
      exact W.zret (v := 0) hx hb hr rfl (fun t ht hW => ⟨⟨_, 0, rfl, ⟨Or.inl rfl, (Or.inr (⟨rfl, by first | trivial | omega⟩))⟩, Bw.to hP9 hD9 hK9 ht hW⟩, hS.F ht⟩) hS.2.2 dX1_hasWord_22
    · skip
      have gc_13 := ti_eq c_13 rfl kc_0
      refine lv_iconst (v := 1) hx hb dX1_hasWord_17 (by decide) ?_
      refine lv_goto (tgt := 22) hx hb dX1_hasWord_18 (by decide) ?_
      have hP9 := hP.sub (ws' := [(hC, .inr (1, [.int iC_nodes, .int iC_words, .int iC_chances, .int iC_unsures, .int iC_slips, .int iC_throneNode, .int iC_saidWorth, .int iC_unit, .ref rC_kind, .ref rC_parts, .ref rC_partNodes, .ref rC_weights, .ref rC_weightSums, .ref rC_toldWorths, .ref rC_steps, .ref rC_below, .ref rC_above, .ref rC_unsureWords, .ref rC_unsureWorths])), (rC_kind, .inl (kC_kind, 18, .inl fC_kind))]) [1, 0] rfl
      have hD9 := hD.sub (ws' := [(hC, .inr (1, [.int iC_nodes, .int iC_words, .int iC_chances, .int iC_unsures, .int iC_slips, .int iC_throneNode, .int iC_saidWorth, .int iC_unit, .ref rC_kind, .ref rC_parts, .ref rC_partNodes, .ref rC_weights, .ref rC_weightSums, .ref rC_toldWorths, .ref rC_steps, .ref rC_below, .ref rC_above, .ref rC_unsureWords, .ref rC_unsureWorths])), (rC_kind, .inl (kC_kind, 18, .inl fC_kind))]) [1, 0] (by decide) rfl
      have hK9 := hK.sub (tys' := [(kC_kind, .int)]) [0] rfl
      exact W.zret (v := 1) hx hb hr rfl (fun t ht hW => ⟨⟨_, 0, rfl, ⟨Or.inr rfl, (Or.inl ⟨rfl, by first | trivial | omega⟩)⟩, Bw.to hP9 hD9 hK9 ht hW⟩, hS.F ht⟩) hS.2.2 dX1_hasWord_22
  · skip
    refine lv_if_eq (tgt := 21) hx hb dX1_hasWord_5 (by decide) (fun _ => ?_) (fun c => absurd c (by decide))
    refine lv_iconst (v := 0) hx hb dX1_hasWord_21 (by decide) ?_
    have hP9 := hP.sub (ws' := [(hC, .inr (1, [.int iC_nodes, .int iC_words, .int iC_chances, .int iC_unsures, .int iC_slips, .int iC_throneNode, .int iC_saidWorth, .int iC_unit, .ref rC_kind, .ref rC_parts, .ref rC_partNodes, .ref rC_weights, .ref rC_weightSums, .ref rC_toldWorths, .ref rC_steps, .ref rC_below, .ref rC_above, .ref rC_unsureWords, .ref rC_unsureWorths])), (rC_kind, .inl (kC_kind, 18, .inl fC_kind))]) [1, 0] rfl
    have hD9 := hD.sub (ws' := [(hC, .inr (1, [.int iC_nodes, .int iC_words, .int iC_chances, .int iC_unsures, .int iC_slips, .int iC_throneNode, .int iC_saidWorth, .int iC_unit, .ref rC_kind, .ref rC_parts, .ref rC_partNodes, .ref rC_weights, .ref rC_weightSums, .ref rC_toldWorths, .ref rC_steps, .ref rC_below, .ref rC_above, .ref rC_unsureWords, .ref rC_unsureWorths])), (rC_kind, .inl (kC_kind, 18, .inl fC_kind))]) [1, 0] (by decide) rfl
    have hK9 := hK.sub (tys' := [(kC_kind, .int)]) [0] rfl
    exact W.zret (v := 0) hx hb hr rfl (fun t ht hW => ⟨⟨_, 0, rfl, ⟨Or.inl rfl, (Or.inr (⟨rfl, by first | trivial | omega⟩))⟩, Bw.to hP9 hD9 hK9 ht hW⟩, hS.F ht⟩) hS.2.2 dX1_hasWord_22
set_option maxHeartbeats 4000000 in
set_option maxRecDepth 100000 in
theorem tX1_hasRoomFor (l : Launch) (dC : Nat → ClassId) (dI : Nat → Nat → Nat) (sz : Nat) (hC : Nat) (iC_nodes : Int32) (iC_words : Int32) (iC_chances : Int32) (iC_unsures : Int32) (iC_slips : Int32) (iC_throneNode : Int32) (iC_saidWorth : Int32) (iC_unit : Int32) (rC_kind : Nat) (rC_parts : Nat) (rC_partNodes : Nat) (rC_weights : Nat) (rC_weightSums : Nat) (rC_toldWorths : Nat) (rC_steps : Nat) (rC_below : Nat) (rC_above : Nat) (rC_unsureWords : Nat) (rC_unsureWorths : Nat) (p0 : Int32) (b_iC_nodes : 0 ≤ iC_nodes.toInt ∧ iC_nodes.toInt ≤ 18) (b_iC_unsures : 0 ≤ iC_unsures.toInt ∧ iC_unsures.toInt ≤ 4)  : Met l yX1_hasRoomFor (Cond.code yX1_hasRoomFor cX1_hasRoomFor 2 (some .boolean) :: wG) ({ frames := 0, cells := 0, slots := 0, locals := 0 }) (va_Pc [.ref hC, .int p0] (Pw dC dI sz [(hC, .inr (1, [.int iC_nodes, .int iC_words, .int iC_chances, .int iC_unsures, .int iC_slips, .int iC_throneNode, .int iC_saidWorth, .int iC_unit, .ref rC_kind, .ref rC_parts, .ref rC_partNodes, .ref rC_weights, .ref rC_weightSums, .ref rC_toldWorths, .ref rC_steps, .ref rC_below, .ref rC_above, .ref rC_unsureWords, .ref rC_unsureWorths]))] [])) (va_Qi (fun (r : Int32) (_ : Nat) => (r = 0 ∨ r = 1) ∧ ((r = 1 ∧ iC_nodes.toInt < 18) ∨ (r = 0 ∧ True))) (fun (_ : Nat) (t : State) => Bw dC dI (va_A [(hC, .inr (1, [.int iC_nodes, .int iC_words, .int iC_chances, .int iC_unsures, .int iC_slips, .int iC_throneNode, .int iC_saidWorth, .int iC_unit, .ref rC_kind, .ref rC_parts, .ref rC_partNodes, .ref rC_weights, .ref rC_weightSums, .ref rC_toldWorths, .ref rC_steps, .ref rC_below, .ref rC_above, .ref rC_unsureWords, .ref rC_unsureWorths]))] sz) [(hC, .inr (1, [.int iC_nodes, .int iC_words, .int iC_chances, .int iC_unsures, .int iC_slips, .int iC_throneNode, .int iC_saidWorth, .int iC_unit, .ref rC_kind, .ref rC_parts, .ref rC_partNodes, .ref rC_weights, .ref rC_weightSums, .ref rC_toldWorths, .ref rC_steps, .ref rC_below, .ref rC_above, .ref rC_unsureWords, .ref rC_unsureWorths]))] [] t) (va_A [(hC, .inr (1, [.int iC_nodes, .int iC_words, .int iC_chances, .int iC_unsures, .int iC_slips, .int iC_throneNode, .int iC_saidWorth, .int iC_unit, .ref rC_kind, .ref rC_parts, .ref rC_partNodes, .ref rC_weights, .ref rC_weightSums, .ref rC_toldWorths, .ref rC_steps, .ref rC_below, .ref rC_above, .ref rC_unsureWords, .ref rC_unsureWorths]))] sz)) 0 0 (va_A [(hC, .inr (1, [.int iC_nodes, .int iC_words, .int iC_chances, .int iC_unsures, .int iC_slips, .int iC_throneNode, .int iC_saidWorth, .int iC_unit, .ref rC_kind, .ref rC_parts, .ref rC_partNodes, .ref rC_weights, .ref rC_weightSums, .ref rC_toldWorths, .ref rC_steps, .ref rC_below, .ref rC_above, .ref rC_unsureWords, .ref rC_unsureWorths]))] sz) := by
  refine Met.ofW (cc := cX1_hasRoomFor) (maxL := 2) (ret := (some .boolean)) (by decide) rfl ?_
  intro p e s m args below meth c s₁ B hml hv
  obtain ⟨rfl, hsz, hP, hK, hD0, hE⟩ := hv
  have hx := B.exec
  have hb := B.bytes
  have hr := B.returns
  have hts : ∀ w ∈ wG, w.before ([.ref hC, .int p0] : List Value).toArray s = true := fun w h => atoms_spec (ws := Cond.code yX1_hasRoomFor cX1_hasRoomFor 2 (some .boolean) :: wG) B.pre w (List.mem_cons_of_mem _ h)
  have hown : s.vm.findClass RX1 = some m.cls := findClass_of_methodNamed B.named
  have hlocks := B.notSynchronized
  subst hsz
  have hD := hD0.self (sz := s.heap.size)
  generalize hAe : va_A [(hC, .inr (1, [.int iC_nodes, .int iC_words, .int iC_chances, .int iC_unsures, .int iC_slips, .int iC_throneNode, .int iC_saidWorth, .int iC_unit, .ref rC_kind, .ref rC_parts, .ref rC_partNodes, .ref rC_weights, .ref rC_weightSums, .ref rC_toldWorths, .ref rC_steps, .ref rC_below, .ref rC_above, .ref rC_unsureWords, .ref rC_unsureWorths]))] s.heap.size = A at hD hE ⊢
  have hA : ∀ q : Nat, s.heap.size ≤ q → A q := fun q h => by rw [← hAe]; exact Or.inr h
  have hS : va_S A s.heap s.heap [] := va_S.rf
  have hl := lv_entry ([.ref hC, .int p0]) (n := 2) (Nat.le_of_ble_eq_true rfl)
  rw [lg_entry_eq]
  generalize (lg_sl ([.ref hC, .int p0]) ++ List.replicate (2 - (lg_sl ([.ref hC, .int p0])).length) Slot.unset).toArray = ls at hl ⊢
  have hl : lv_has ls 2 [(0, .ref hC), (1, .int p0)] := hl
  have rg_p0 := fb_rng p0
  refine lv_aload_n hx hb dX1_hasRoomFor_0 rfl (lv_at hl 0 rfl) ?_
  refine va_get (D := (dC, dI)) (ci := 1) (v := .int iC_nodes) (C := RX1) (T := TX1) (N := 19) hx hb hts inX1 hown hK hP 0 rfl rfl 0 (by decide) (hts _ wd_215) (fun _ h9 => h9) rfl dX1_hasRoomFor_1 ?_
  have rg_iC_nodes := fb_rng iC_nodes
  refine lv_bipush (v := 18) hx hb dX1_hasRoomFor_4 (by decide) ?_
  refine lv_icmp_lt (tgt := 11) hx hb dX1_hasRoomFor_6 (by decide) (fun c_22 => ?_) (fun c_22 => ?_)
  · skip
    have gc_22 := ti_lt c_22 rfl kc_18
    refine lv_iload_n hx hb dX1_hasRoomFor_11 rfl (lv_at hl 1 rfl) ?_
    refine lv_if_ne (tgt := 30) hx hb dX1_hasRoomFor_12 (by decide) (fun c_23 => ?_) (fun c_23 => ?_)
    · skip
      have gc_23 := ti_ne c_23 rfl kc_0
      refine lv_aload_n hx hb dX1_hasRoomFor_30 rfl (lv_at hl 0 rfl) ?_
      refine va_get (D := (dC, dI)) (ci := 1) (v := .int iC_nodes) (C := RX1) (T := TX1) (N := 19) hx hb hts inX1 hown hK hP 0 rfl rfl 0 (by decide) (hts _ wd_215) (fun _ h9 => h9) rfl dX1_hasRoomFor_31 ?_
      refine lv_aload_n hx hb dX1_hasRoomFor_34 rfl (lv_at hl 0 rfl) ?_
      refine va_get (D := (dC, dI)) (ci := 1) (v := .int iC_words) (C := RX1) (T := TX1) (N := 19) hx hb hts inX1 hown hK hP 0 rfl rfl 1 (by decide) (hts _ wd_216) (fun _ h9 => h9) rfl dX1_hasRoomFor_35 ?_
      have rg_iC_words := fb_rng iC_words
      refine lv_isub hx hb dX1_hasRoomFor_38 ?_
      refine lv_topi (fun x_24 ex_24 => ?_)
      have rg_x_24 := fb_rng x_24
      refine lv_bipush (v := 8) hx hb dX1_hasRoomFor_39 (by decide) ?_
      refine lv_icmp_ge (tgt := 61) hx hb dX1_hasRoomFor_41 (by decide) (fun c_25 => ?_) (fun c_25 => ?_)
      · skip
        have gc_25 := ti_le c_25 kc_8 rfl
        refine lv_iconst (v := 0) hx hb dX1_hasRoomFor_61 (by decide) ?_
        have hP9 := hP.sub (ws' := [(hC, .inr (1, [.int iC_nodes, .int iC_words, .int iC_chances, .int iC_unsures, .int iC_slips, .int iC_throneNode, .int iC_saidWorth, .int iC_unit, .ref rC_kind, .ref rC_parts, .ref rC_partNodes, .ref rC_weights, .ref rC_weightSums, .ref rC_toldWorths, .ref rC_steps, .ref rC_below, .ref rC_above, .ref rC_unsureWords, .ref rC_unsureWorths]))]) [0] rfl
        have hD9 := hD.sub (ws' := [(hC, .inr (1, [.int iC_nodes, .int iC_words, .int iC_chances, .int iC_unsures, .int iC_slips, .int iC_throneNode, .int iC_saidWorth, .int iC_unit, .ref rC_kind, .ref rC_parts, .ref rC_partNodes, .ref rC_weights, .ref rC_weightSums, .ref rC_toldWorths, .ref rC_steps, .ref rC_below, .ref rC_above, .ref rC_unsureWords, .ref rC_unsureWorths]))]) [0] (by decide) rfl
        have hK9 := hK.sub (tys' := []) [] rfl
        exact W.zret (v := 0) hx hb hr rfl (fun t ht hW => ⟨⟨_, 0, rfl, ⟨Or.inl rfl, (Or.inr (⟨rfl, by first | trivial | omega⟩))⟩, Bw.to hP9 hD9 hK9 ht hW⟩, hS.F ht⟩) hS.2.2 dX1_hasRoomFor_62
      · skip
        have gc_25 := ti_nle c_25 kc_8 rfl
        refine lv_iload_n hx hb dX1_hasRoomFor_44 rfl (lv_at hl 1 rfl) ?_
        refine lv_iconst (v := 3) hx hb dX1_hasRoomFor_45 (by decide) ?_
        refine lv_icmp_ne (tgt := 57) hx hb dX1_hasRoomFor_46 (by decide) (fun c_26 => ?_) (fun c_26 => ?_)
        · skip
          have gc_26 := ti_ne c_26 rfl kc_3
          refine lv_iconst (v := 1) hx hb dX1_hasRoomFor_57 (by decide) ?_
          refine lv_goto (tgt := 62) hx hb dX1_hasRoomFor_58 (by decide) ?_
          have hP9 := hP.sub (ws' := [(hC, .inr (1, [.int iC_nodes, .int iC_words, .int iC_chances, .int iC_unsures, .int iC_slips, .int iC_throneNode, .int iC_saidWorth, .int iC_unit, .ref rC_kind, .ref rC_parts, .ref rC_partNodes, .ref rC_weights, .ref rC_weightSums, .ref rC_toldWorths, .ref rC_steps, .ref rC_below, .ref rC_above, .ref rC_unsureWords, .ref rC_unsureWorths]))]) [0] rfl
          have hD9 := hD.sub (ws' := [(hC, .inr (1, [.int iC_nodes, .int iC_words, .int iC_chances, .int iC_unsures, .int iC_slips, .int iC_throneNode, .int iC_saidWorth, .int iC_unit, .ref rC_kind, .ref rC_parts, .ref rC_partNodes, .ref rC_weights, .ref rC_weightSums, .ref rC_toldWorths, .ref rC_steps, .ref rC_below, .ref rC_above, .ref rC_unsureWords, .ref rC_unsureWorths]))]) [0] (by decide) rfl
          have hK9 := hK.sub (tys' := []) [] rfl
          exact W.zret (v := 1) hx hb hr rfl (fun t ht hW => ⟨⟨_, 0, rfl, ⟨Or.inr rfl, (Or.inl ⟨rfl, by first | trivial | omega⟩)⟩, Bw.to hP9 hD9 hK9 ht hW⟩, hS.F ht⟩) hS.2.2 dX1_hasRoomFor_62
        · skip
          have gc_26 := ti_eq c_26 rfl kc_3
          refine lv_aload_n hx hb dX1_hasRoomFor_49 rfl (lv_at hl 0 rfl) ?_
          refine va_get (D := (dC, dI)) (ci := 1) (v := .int iC_chances) (C := RX1) (T := TX1) (N := 19) hx hb hts inX1 hown hK hP 0 rfl rfl 2 (by decide) (hts _ wd_217) (fun _ h9 => h9) rfl dX1_hasRoomFor_50 ?_
          have rg_iC_chances := fb_rng iC_chances
          refine lv_iconst (v := 2) hx hb dX1_hasRoomFor_53 (by decide) ?_
          refine lv_icmp_ge (tgt := 61) hx hb dX1_hasRoomFor_54 (by decide) (fun c_27 => ?_) (fun c_27 => ?_)
          · skip
            have gc_27 := ti_le c_27 kc_2 rfl
            refine lv_iconst (v := 0) hx hb dX1_hasRoomFor_61 (by decide) ?_
            have hP9 := hP.sub (ws' := [(hC, .inr (1, [.int iC_nodes, .int iC_words, .int iC_chances, .int iC_unsures, .int iC_slips, .int iC_throneNode, .int iC_saidWorth, .int iC_unit, .ref rC_kind, .ref rC_parts, .ref rC_partNodes, .ref rC_weights, .ref rC_weightSums, .ref rC_toldWorths, .ref rC_steps, .ref rC_below, .ref rC_above, .ref rC_unsureWords, .ref rC_unsureWorths]))]) [0] rfl
            have hD9 := hD.sub (ws' := [(hC, .inr (1, [.int iC_nodes, .int iC_words, .int iC_chances, .int iC_unsures, .int iC_slips, .int iC_throneNode, .int iC_saidWorth, .int iC_unit, .ref rC_kind, .ref rC_parts, .ref rC_partNodes, .ref rC_weights, .ref rC_weightSums, .ref rC_toldWorths, .ref rC_steps, .ref rC_below, .ref rC_above, .ref rC_unsureWords, .ref rC_unsureWorths]))]) [0] (by decide) rfl
            have hK9 := hK.sub (tys' := []) [] rfl
            exact W.zret (v := 0) hx hb hr rfl (fun t ht hW => ⟨⟨_, 0, rfl, ⟨Or.inl rfl, (Or.inr (⟨rfl, by first | trivial | omega⟩))⟩, Bw.to hP9 hD9 hK9 ht hW⟩, hS.F ht⟩) hS.2.2 dX1_hasRoomFor_62
          · skip
            have gc_27 := ti_nle c_27 kc_2 rfl
            refine lv_iconst (v := 1) hx hb dX1_hasRoomFor_57 (by decide) ?_
            refine lv_goto (tgt := 62) hx hb dX1_hasRoomFor_58 (by decide) ?_
            have hP9 := hP.sub (ws' := [(hC, .inr (1, [.int iC_nodes, .int iC_words, .int iC_chances, .int iC_unsures, .int iC_slips, .int iC_throneNode, .int iC_saidWorth, .int iC_unit, .ref rC_kind, .ref rC_parts, .ref rC_partNodes, .ref rC_weights, .ref rC_weightSums, .ref rC_toldWorths, .ref rC_steps, .ref rC_below, .ref rC_above, .ref rC_unsureWords, .ref rC_unsureWorths]))]) [0] rfl
            have hD9 := hD.sub (ws' := [(hC, .inr (1, [.int iC_nodes, .int iC_words, .int iC_chances, .int iC_unsures, .int iC_slips, .int iC_throneNode, .int iC_saidWorth, .int iC_unit, .ref rC_kind, .ref rC_parts, .ref rC_partNodes, .ref rC_weights, .ref rC_weightSums, .ref rC_toldWorths, .ref rC_steps, .ref rC_below, .ref rC_above, .ref rC_unsureWords, .ref rC_unsureWorths]))]) [0] (by decide) rfl
            have hK9 := hK.sub (tys' := []) [] rfl
            exact W.zret (v := 1) hx hb hr rfl (fun t ht hW => ⟨⟨_, 0, rfl, ⟨Or.inr rfl, (Or.inl ⟨rfl, by first | trivial | omega⟩)⟩, Bw.to hP9 hD9 hK9 ht hW⟩, hS.F ht⟩) hS.2.2 dX1_hasRoomFor_62
    · skip
      have gc_23 := ti_eq c_23 rfl kc_0
      refine lv_aload_n hx hb dX1_hasRoomFor_15 rfl (lv_at hl 0 rfl) ?_
      refine va_get (D := (dC, dI)) (ci := 1) (v := .int iC_words) (C := RX1) (T := TX1) (N := 19) hx hb hts inX1 hown hK hP 0 rfl rfl 1 (by decide) (hts _ wd_216) (fun _ h9 => h9) rfl dX1_hasRoomFor_16 ?_
      have rg_iC_words := fb_rng iC_words
      refine lv_bipush (v := 10) hx hb dX1_hasRoomFor_19 (by decide) ?_
      refine lv_icmp_ge (tgt := 28) hx hb dX1_hasRoomFor_21 (by decide) (fun c_28 => ?_) (fun c_28 => ?_)
      · skip
        have gc_28 := ti_le c_28 kc_10 rfl
        refine lv_iconst (v := 0) hx hb dX1_hasRoomFor_28 (by decide) ?_
        have hP9 := hP.sub (ws' := [(hC, .inr (1, [.int iC_nodes, .int iC_words, .int iC_chances, .int iC_unsures, .int iC_slips, .int iC_throneNode, .int iC_saidWorth, .int iC_unit, .ref rC_kind, .ref rC_parts, .ref rC_partNodes, .ref rC_weights, .ref rC_weightSums, .ref rC_toldWorths, .ref rC_steps, .ref rC_below, .ref rC_above, .ref rC_unsureWords, .ref rC_unsureWorths]))]) [0] rfl
        have hD9 := hD.sub (ws' := [(hC, .inr (1, [.int iC_nodes, .int iC_words, .int iC_chances, .int iC_unsures, .int iC_slips, .int iC_throneNode, .int iC_saidWorth, .int iC_unit, .ref rC_kind, .ref rC_parts, .ref rC_partNodes, .ref rC_weights, .ref rC_weightSums, .ref rC_toldWorths, .ref rC_steps, .ref rC_below, .ref rC_above, .ref rC_unsureWords, .ref rC_unsureWorths]))]) [0] (by decide) rfl
        have hK9 := hK.sub (tys' := []) [] rfl
        exact W.zret (v := 0) hx hb hr rfl (fun t ht hW => ⟨⟨_, 0, rfl, ⟨Or.inl rfl, (Or.inr (⟨rfl, by first | trivial | omega⟩))⟩, Bw.to hP9 hD9 hK9 ht hW⟩, hS.F ht⟩) hS.2.2 dX1_hasRoomFor_29
      · skip
        have gc_28 := ti_nle c_28 kc_10 rfl
        refine lv_iconst (v := 1) hx hb dX1_hasRoomFor_24 (by decide) ?_
        refine lv_goto (tgt := 29) hx hb dX1_hasRoomFor_25 (by decide) ?_
        have hP9 := hP.sub (ws' := [(hC, .inr (1, [.int iC_nodes, .int iC_words, .int iC_chances, .int iC_unsures, .int iC_slips, .int iC_throneNode, .int iC_saidWorth, .int iC_unit, .ref rC_kind, .ref rC_parts, .ref rC_partNodes, .ref rC_weights, .ref rC_weightSums, .ref rC_toldWorths, .ref rC_steps, .ref rC_below, .ref rC_above, .ref rC_unsureWords, .ref rC_unsureWorths]))]) [0] rfl
        have hD9 := hD.sub (ws' := [(hC, .inr (1, [.int iC_nodes, .int iC_words, .int iC_chances, .int iC_unsures, .int iC_slips, .int iC_throneNode, .int iC_saidWorth, .int iC_unit, .ref rC_kind, .ref rC_parts, .ref rC_partNodes, .ref rC_weights, .ref rC_weightSums, .ref rC_toldWorths, .ref rC_steps, .ref rC_below, .ref rC_above, .ref rC_unsureWords, .ref rC_unsureWorths]))]) [0] (by decide) rfl
        have hK9 := hK.sub (tys' := []) [] rfl
        exact W.zret (v := 1) hx hb hr rfl (fun t ht hW => ⟨⟨_, 0, rfl, ⟨Or.inr rfl, (Or.inl ⟨rfl, by first | trivial | omega⟩)⟩, Bw.to hP9 hD9 hK9 ht hW⟩, hS.F ht⟩) hS.2.2 dX1_hasRoomFor_29
  · skip
    have gc_22 := ti_nlt c_22 rfl kc_18
    refine lv_iconst (v := 0) hx hb dX1_hasRoomFor_9 (by decide) ?_
    have hP9 := hP.sub (ws' := [(hC, .inr (1, [.int iC_nodes, .int iC_words, .int iC_chances, .int iC_unsures, .int iC_slips, .int iC_throneNode, .int iC_saidWorth, .int iC_unit, .ref rC_kind, .ref rC_parts, .ref rC_partNodes, .ref rC_weights, .ref rC_weightSums, .ref rC_toldWorths, .ref rC_steps, .ref rC_below, .ref rC_above, .ref rC_unsureWords, .ref rC_unsureWorths]))]) [0] rfl
    have hD9 := hD.sub (ws' := [(hC, .inr (1, [.int iC_nodes, .int iC_words, .int iC_chances, .int iC_unsures, .int iC_slips, .int iC_throneNode, .int iC_saidWorth, .int iC_unit, .ref rC_kind, .ref rC_parts, .ref rC_partNodes, .ref rC_weights, .ref rC_weightSums, .ref rC_toldWorths, .ref rC_steps, .ref rC_below, .ref rC_above, .ref rC_unsureWords, .ref rC_unsureWorths]))]) [0] (by decide) rfl
    have hK9 := hK.sub (tys' := []) [] rfl
    exact W.zret (v := 0) hx hb hr rfl (fun t ht hW => ⟨⟨_, 0, rfl, ⟨Or.inl rfl, (Or.inr (⟨rfl, by first | trivial | omega⟩))⟩, Bw.to hP9 hD9 hK9 ht hW⟩, hS.F ht⟩) hS.2.2 dX1_hasRoomFor_10
set_option maxHeartbeats 4000000 in
set_option maxRecDepth 100000 in
theorem tX1_hasRoomForPart (l : Launch) (dC : Nat → ClassId) (dI : Nat → Nat → Nat) (sz : Nat) (hC : Nat) (iC_nodes : Int32) (iC_words : Int32) (iC_chances : Int32) (iC_unsures : Int32) (iC_slips : Int32) (iC_throneNode : Int32) (iC_saidWorth : Int32) (iC_unit : Int32) (rC_kind : Nat) (rC_parts : Nat) (fC_parts : Nat → Int32) (kC_parts : ClassId) (rC_partNodes : Nat) (rC_weights : Nat) (rC_weightSums : Nat) (rC_toldWorths : Nat) (rC_steps : Nat) (rC_below : Nat) (rC_above : Nat) (rC_unsureWords : Nat) (rC_unsureWorths : Nat) (b_iC_nodes : 0 ≤ iC_nodes.toInt ∧ iC_nodes.toInt ≤ 18) (b_iC_unsures : 0 ≤ iC_unsures.toInt ∧ iC_unsures.toInt ≤ 4) (a_fC_parts : ∀ j : Nat, j < 18 → 0 ≤ (fC_parts j).toInt ∧ (fC_parts j).toInt ≤ 4)  : Met l yX1_hasRoomForPart (Cond.code yX1_hasRoomForPart cX1_hasRoomForPart 1 (some .boolean) :: wG) ({ frames := 0, cells := 0, slots := 0, locals := 0 }) (va_Pc [.ref hC] (Pw dC dI sz [(hC, .inr (1, [.int iC_nodes, .int iC_words, .int iC_chances, .int iC_unsures, .int iC_slips, .int iC_throneNode, .int iC_saidWorth, .int iC_unit, .ref rC_kind, .ref rC_parts, .ref rC_partNodes, .ref rC_weights, .ref rC_weightSums, .ref rC_toldWorths, .ref rC_steps, .ref rC_below, .ref rC_above, .ref rC_unsureWords, .ref rC_unsureWorths])), (rC_parts, .inl (kC_parts, 18, .inl fC_parts))] [(kC_parts, .int)])) (va_Qi (fun (r : Int32) (_ : Nat) => (r = 0 ∨ r = 1) ∧ ((r = 1 ∧ iC_nodes.toInt < 18) ∨ (r = 0 ∧ True))) (fun (_ : Nat) (t : State) => Bw dC dI (va_A [(hC, .inr (1, [.int iC_nodes, .int iC_words, .int iC_chances, .int iC_unsures, .int iC_slips, .int iC_throneNode, .int iC_saidWorth, .int iC_unit, .ref rC_kind, .ref rC_parts, .ref rC_partNodes, .ref rC_weights, .ref rC_weightSums, .ref rC_toldWorths, .ref rC_steps, .ref rC_below, .ref rC_above, .ref rC_unsureWords, .ref rC_unsureWorths])), (rC_parts, .inl (kC_parts, 18, .inl fC_parts))] sz) [(hC, .inr (1, [.int iC_nodes, .int iC_words, .int iC_chances, .int iC_unsures, .int iC_slips, .int iC_throneNode, .int iC_saidWorth, .int iC_unit, .ref rC_kind, .ref rC_parts, .ref rC_partNodes, .ref rC_weights, .ref rC_weightSums, .ref rC_toldWorths, .ref rC_steps, .ref rC_below, .ref rC_above, .ref rC_unsureWords, .ref rC_unsureWorths])), (rC_parts, .inl (kC_parts, 18, .inl fC_parts))] [(kC_parts, .int)] t) (va_A [(hC, .inr (1, [.int iC_nodes, .int iC_words, .int iC_chances, .int iC_unsures, .int iC_slips, .int iC_throneNode, .int iC_saidWorth, .int iC_unit, .ref rC_kind, .ref rC_parts, .ref rC_partNodes, .ref rC_weights, .ref rC_weightSums, .ref rC_toldWorths, .ref rC_steps, .ref rC_below, .ref rC_above, .ref rC_unsureWords, .ref rC_unsureWorths])), (rC_parts, .inl (kC_parts, 18, .inl fC_parts))] sz)) 0 0 (va_A [(hC, .inr (1, [.int iC_nodes, .int iC_words, .int iC_chances, .int iC_unsures, .int iC_slips, .int iC_throneNode, .int iC_saidWorth, .int iC_unit, .ref rC_kind, .ref rC_parts, .ref rC_partNodes, .ref rC_weights, .ref rC_weightSums, .ref rC_toldWorths, .ref rC_steps, .ref rC_below, .ref rC_above, .ref rC_unsureWords, .ref rC_unsureWorths])), (rC_parts, .inl (kC_parts, 18, .inl fC_parts))] sz) := by
  refine Met.ofW (cc := cX1_hasRoomForPart) (maxL := 1) (ret := (some .boolean)) (by decide) rfl ?_
  intro p e s m args below meth c s₁ B hml hv
  obtain ⟨rfl, hsz, hP, hK, hD0, hE⟩ := hv
  have hx := B.exec
  have hb := B.bytes
  have hr := B.returns
  have hts : ∀ w ∈ wG, w.before ([.ref hC] : List Value).toArray s = true := fun w h => atoms_spec (ws := Cond.code yX1_hasRoomForPart cX1_hasRoomForPart 1 (some .boolean) :: wG) B.pre w (List.mem_cons_of_mem _ h)
  have hown : s.vm.findClass RX1 = some m.cls := findClass_of_methodNamed B.named
  have hlocks := B.notSynchronized
  subst hsz
  have hD := hD0.self (sz := s.heap.size)
  generalize hAe : va_A [(hC, .inr (1, [.int iC_nodes, .int iC_words, .int iC_chances, .int iC_unsures, .int iC_slips, .int iC_throneNode, .int iC_saidWorth, .int iC_unit, .ref rC_kind, .ref rC_parts, .ref rC_partNodes, .ref rC_weights, .ref rC_weightSums, .ref rC_toldWorths, .ref rC_steps, .ref rC_below, .ref rC_above, .ref rC_unsureWords, .ref rC_unsureWorths])), (rC_parts, .inl (kC_parts, 18, .inl fC_parts))] s.heap.size = A at hD hE ⊢
  have hA : ∀ q : Nat, s.heap.size ≤ q → A q := fun q h => by rw [← hAe]; exact Or.inr h
  have hS : va_S A s.heap s.heap [] := va_S.rf
  have hl := lv_entry ([.ref hC]) (n := 1) (Nat.le_of_ble_eq_true rfl)
  rw [lg_entry_eq]
  generalize (lg_sl ([.ref hC]) ++ List.replicate (1 - (lg_sl ([.ref hC])).length) Slot.unset).toArray = ls at hl ⊢
  have hl : lv_has ls 1 [(0, .ref hC)] := hl
  refine lv_aload_n hx hb dX1_hasRoomForPart_0 rfl (lv_at hl 0 rfl) ?_
  refine va_get (D := (dC, dI)) (ci := 1) (v := .int iC_nodes) (C := RX1) (T := TX1) (N := 19) hx hb hts inX1 hown hK hP 0 rfl rfl 0 (by decide) (hts _ wd_215) (fun _ h9 => h9) rfl dX1_hasRoomForPart_1 ?_
  have rg_iC_nodes := fb_rng iC_nodes
  refine lv_bipush (v := 18) hx hb dX1_hasRoomForPart_4 (by decide) ?_
  refine lv_icmp_ge (tgt := 26) hx hb dX1_hasRoomForPart_6 (by decide) (fun c_32 => ?_) (fun c_32 => ?_)
  · skip
    have gc_32 := ti_le c_32 kc_18 rfl
    refine lv_iconst (v := 0) hx hb dX1_hasRoomForPart_26 (by decide) ?_
    have hP9 := hP.sub (ws' := [(hC, .inr (1, [.int iC_nodes, .int iC_words, .int iC_chances, .int iC_unsures, .int iC_slips, .int iC_throneNode, .int iC_saidWorth, .int iC_unit, .ref rC_kind, .ref rC_parts, .ref rC_partNodes, .ref rC_weights, .ref rC_weightSums, .ref rC_toldWorths, .ref rC_steps, .ref rC_below, .ref rC_above, .ref rC_unsureWords, .ref rC_unsureWorths])), (rC_parts, .inl (kC_parts, 18, .inl fC_parts))]) [0, 1] rfl
    have hD9 := hD.sub (ws' := [(hC, .inr (1, [.int iC_nodes, .int iC_words, .int iC_chances, .int iC_unsures, .int iC_slips, .int iC_throneNode, .int iC_saidWorth, .int iC_unit, .ref rC_kind, .ref rC_parts, .ref rC_partNodes, .ref rC_weights, .ref rC_weightSums, .ref rC_toldWorths, .ref rC_steps, .ref rC_below, .ref rC_above, .ref rC_unsureWords, .ref rC_unsureWorths])), (rC_parts, .inl (kC_parts, 18, .inl fC_parts))]) [0, 1] (by decide) rfl
    have hK9 := hK.sub (tys' := [(kC_parts, .int)]) [0] rfl
    exact W.zret (v := 0) hx hb hr rfl (fun t ht hW => ⟨⟨_, 0, rfl, ⟨Or.inl rfl, (Or.inr (⟨rfl, by first | trivial | omega⟩))⟩, Bw.to hP9 hD9 hK9 ht hW⟩, hS.F ht⟩) hS.2.2 dX1_hasRoomForPart_27
  · skip
    have gc_32 := ti_nle c_32 kc_18 rfl
    refine lv_aload_n hx hb dX1_hasRoomForPart_9 rfl (lv_at hl 0 rfl) ?_
    refine va_get (D := (dC, dI)) (ci := 1) (v := .ref rC_parts) (C := RX1) (T := TX1) (N := 19) hx hb hts inX1 hown hK hP 0 rfl rfl 9 (by decide) (hts _ wd_55) (fun _ h9 => h9) rfl dX1_hasRoomForPart_10 ?_
    refine lv_aload_n hx hb dX1_hasRoomForPart_13 rfl (lv_at hl 0 rfl) ?_
    refine va_get (D := (dC, dI)) (ci := 1) (v := .int iC_nodes) (C := RX1) (T := TX1) (N := 19) hx hb hts inX1 hown hK hP 0 rfl rfl 0 (by decide) (hts _ wd_215) (fun _ h9 => h9) rfl dX1_hasRoomForPart_14 ?_
    refine va_iald hx hb hK hP 1 0 rfl rfl (ti_in rfl (by omega) (by omega)) dX1_hasRoomForPart_17 ?_
    refine lv_topi (fun x_33 ex_33 => ?_)
    have rg_x_33 := fb_rng x_33
    have ux_33 := a_fC_parts _ (by have q := ti_cl (x := iC_nodes) rfl (by omega); omega : iC_nodes.toNatClampNeg < 18)
    rw [show fC_parts iC_nodes.toNatClampNeg = x_33 from ex_33.symm] at ux_33
    refine lv_iconst (v := 4) hx hb dX1_hasRoomForPart_18 (by decide) ?_
    refine lv_icmp_ge (tgt := 26) hx hb dX1_hasRoomForPart_19 (by decide) (fun c_34 => ?_) (fun c_34 => ?_)
    · skip
      have gc_34 := ti_le c_34 kc_4 rfl
      refine lv_iconst (v := 0) hx hb dX1_hasRoomForPart_26 (by decide) ?_
      have hP9 := hP.sub (ws' := [(hC, .inr (1, [.int iC_nodes, .int iC_words, .int iC_chances, .int iC_unsures, .int iC_slips, .int iC_throneNode, .int iC_saidWorth, .int iC_unit, .ref rC_kind, .ref rC_parts, .ref rC_partNodes, .ref rC_weights, .ref rC_weightSums, .ref rC_toldWorths, .ref rC_steps, .ref rC_below, .ref rC_above, .ref rC_unsureWords, .ref rC_unsureWorths])), (rC_parts, .inl (kC_parts, 18, .inl fC_parts))]) [0, 1] rfl
      have hD9 := hD.sub (ws' := [(hC, .inr (1, [.int iC_nodes, .int iC_words, .int iC_chances, .int iC_unsures, .int iC_slips, .int iC_throneNode, .int iC_saidWorth, .int iC_unit, .ref rC_kind, .ref rC_parts, .ref rC_partNodes, .ref rC_weights, .ref rC_weightSums, .ref rC_toldWorths, .ref rC_steps, .ref rC_below, .ref rC_above, .ref rC_unsureWords, .ref rC_unsureWorths])), (rC_parts, .inl (kC_parts, 18, .inl fC_parts))]) [0, 1] (by decide) rfl
      have hK9 := hK.sub (tys' := [(kC_parts, .int)]) [0] rfl
      exact W.zret (v := 0) hx hb hr rfl (fun t ht hW => ⟨⟨_, 0, rfl, ⟨Or.inl rfl, (Or.inr (⟨rfl, by first | trivial | omega⟩))⟩, Bw.to hP9 hD9 hK9 ht hW⟩, hS.F ht⟩) hS.2.2 dX1_hasRoomForPart_27
    · skip
      have gc_34 := ti_nle c_34 kc_4 rfl
      refine lv_iconst (v := 1) hx hb dX1_hasRoomForPart_22 (by decide) ?_
      refine lv_goto (tgt := 27) hx hb dX1_hasRoomForPart_23 (by decide) ?_
      have hP9 := hP.sub (ws' := [(hC, .inr (1, [.int iC_nodes, .int iC_words, .int iC_chances, .int iC_unsures, .int iC_slips, .int iC_throneNode, .int iC_saidWorth, .int iC_unit, .ref rC_kind, .ref rC_parts, .ref rC_partNodes, .ref rC_weights, .ref rC_weightSums, .ref rC_toldWorths, .ref rC_steps, .ref rC_below, .ref rC_above, .ref rC_unsureWords, .ref rC_unsureWorths])), (rC_parts, .inl (kC_parts, 18, .inl fC_parts))]) [0, 1] rfl
      have hD9 := hD.sub (ws' := [(hC, .inr (1, [.int iC_nodes, .int iC_words, .int iC_chances, .int iC_unsures, .int iC_slips, .int iC_throneNode, .int iC_saidWorth, .int iC_unit, .ref rC_kind, .ref rC_parts, .ref rC_partNodes, .ref rC_weights, .ref rC_weightSums, .ref rC_toldWorths, .ref rC_steps, .ref rC_below, .ref rC_above, .ref rC_unsureWords, .ref rC_unsureWorths])), (rC_parts, .inl (kC_parts, 18, .inl fC_parts))]) [0, 1] (by decide) rfl
      have hK9 := hK.sub (tys' := [(kC_parts, .int)]) [0] rfl
      exact W.zret (v := 1) hx hb hr rfl (fun t ht hW => ⟨⟨_, 0, rfl, ⟨Or.inr rfl, (Or.inl ⟨rfl, by first | trivial | omega⟩)⟩, Bw.to hP9 hD9 hK9 ht hW⟩, hS.F ht⟩) hS.2.2 dX1_hasRoomForPart_27
set_option maxHeartbeats 4000000 in
set_option maxRecDepth 100000 in
theorem tX1_beginNode (l : Launch) (dC : Nat → ClassId) (dI : Nat → Nat → Nat) (sz : Nat) (hC : Nat) (iC_nodes : Int32) (iC_words : Int32) (iC_chances : Int32) (iC_unsures : Int32) (iC_slips : Int32) (iC_throneNode : Int32) (iC_saidWorth : Int32) (iC_unit : Int32) (rC_kind : Nat) (fC_kind : Nat → Int32) (kC_kind : ClassId) (rC_parts : Nat) (fC_parts : Nat → Int32) (kC_parts : ClassId) (rC_partNodes : Nat) (rC_weights : Nat) (rC_weightSums : Nat) (fC_weightSums : Nat → Int32) (kC_weightSums : ClassId) (rC_toldWorths : Nat) (fC_toldWorths : Nat → Int32) (kC_toldWorths : ClassId) (rC_steps : Nat) (fC_steps : Nat → Int32) (kC_steps : ClassId) (rC_below : Nat) (fC_below : Nat → Int32) (kC_below : ClassId) (rC_above : Nat) (fC_above : Nat → Int32) (kC_above : ClassId) (rC_unsureWords : Nat) (rC_unsureWorths : Nat) (p0 : Int32) (b_iC_nodes : 0 ≤ iC_nodes.toInt ∧ iC_nodes.toInt ≤ 18) (b_iC_unsures : 0 ≤ iC_unsures.toInt ∧ iC_unsures.toInt ≤ 4) (a_fC_parts : ∀ j : Nat, j < 18 → 0 ≤ (fC_parts j).toInt ∧ (fC_parts j).toInt ≤ 4)  : Met l yX1_beginNode (Cond.code yX1_beginNode cX1_beginNode 2 none :: wG) ({ frames := 0, cells := 0, slots := 0, locals := 0 }) (va_Pc [.ref hC, .int p0] (Pw dC dI sz [(hC, .inr (1, [.int iC_nodes, .int iC_words, .int iC_chances, .int iC_unsures, .int iC_slips, .int iC_throneNode, .int iC_saidWorth, .int iC_unit, .ref rC_kind, .ref rC_parts, .ref rC_partNodes, .ref rC_weights, .ref rC_weightSums, .ref rC_toldWorths, .ref rC_steps, .ref rC_below, .ref rC_above, .ref rC_unsureWords, .ref rC_unsureWorths])), (rC_kind, .inl (kC_kind, 18, .inl fC_kind)), (rC_parts, .inl (kC_parts, 18, .inl fC_parts)), (rC_weightSums, .inl (kC_weightSums, 18, .inl fC_weightSums)), (rC_toldWorths, .inl (kC_toldWorths, 18, .inl fC_toldWorths)), (rC_steps, .inl (kC_steps, 18, .inl fC_steps)), (rC_below, .inl (kC_below, 18, .inl fC_below)), (rC_above, .inl (kC_above, 18, .inl fC_above))] [(kC_kind, .int), (kC_parts, .int), (kC_weightSums, .int), (kC_toldWorths, .int), (kC_steps, .int), (kC_below, .int), (kC_above, .int)])) (va_Qv (fun (_ : Nat) => True) (fun (_ : Nat) (t : State) => ∃ (nfC_kind : Nat → Int32) (nfC_parts : Nat → Int32) (nfC_weightSums : Nat → Int32) (nfC_toldWorths : Nat → Int32) (nfC_steps : Nat → Int32) (nfC_below : Nat → Int32) (nfC_above : Nat → Int32), (∀ j : Nat, j < 18 → 0 ≤ (nfC_parts j).toInt ∧ (nfC_parts j).toInt ≤ 4) ∧ Bw dC dI (va_A [(hC, .inr (1, [.int iC_nodes, .int iC_words, .int iC_chances, .int iC_unsures, .int iC_slips, .int iC_throneNode, .int iC_saidWorth, .int iC_unit, .ref rC_kind, .ref rC_parts, .ref rC_partNodes, .ref rC_weights, .ref rC_weightSums, .ref rC_toldWorths, .ref rC_steps, .ref rC_below, .ref rC_above, .ref rC_unsureWords, .ref rC_unsureWorths])), (rC_kind, .inl (kC_kind, 18, .inl fC_kind)), (rC_parts, .inl (kC_parts, 18, .inl fC_parts)), (rC_weightSums, .inl (kC_weightSums, 18, .inl fC_weightSums)), (rC_toldWorths, .inl (kC_toldWorths, 18, .inl fC_toldWorths)), (rC_steps, .inl (kC_steps, 18, .inl fC_steps)), (rC_below, .inl (kC_below, 18, .inl fC_below)), (rC_above, .inl (kC_above, 18, .inl fC_above))] sz) [(hC, .inr (1, [.int iC_nodes, .int iC_words, .int iC_chances, .int iC_unsures, .int iC_slips, .int iC_throneNode, .int iC_saidWorth, .int iC_unit, .ref rC_kind, .ref rC_parts, .ref rC_partNodes, .ref rC_weights, .ref rC_weightSums, .ref rC_toldWorths, .ref rC_steps, .ref rC_below, .ref rC_above, .ref rC_unsureWords, .ref rC_unsureWorths])), (rC_kind, .inl (kC_kind, 18, .inl nfC_kind)), (rC_parts, .inl (kC_parts, 18, .inl nfC_parts)), (rC_weightSums, .inl (kC_weightSums, 18, .inl nfC_weightSums)), (rC_toldWorths, .inl (kC_toldWorths, 18, .inl nfC_toldWorths)), (rC_steps, .inl (kC_steps, 18, .inl nfC_steps)), (rC_below, .inl (kC_below, 18, .inl nfC_below)), (rC_above, .inl (kC_above, 18, .inl nfC_above))] [(kC_kind, .int), (kC_parts, .int), (kC_weightSums, .int), (kC_toldWorths, .int), (kC_steps, .int), (kC_below, .int), (kC_above, .int)] t) (va_A [(hC, .inr (1, [.int iC_nodes, .int iC_words, .int iC_chances, .int iC_unsures, .int iC_slips, .int iC_throneNode, .int iC_saidWorth, .int iC_unit, .ref rC_kind, .ref rC_parts, .ref rC_partNodes, .ref rC_weights, .ref rC_weightSums, .ref rC_toldWorths, .ref rC_steps, .ref rC_below, .ref rC_above, .ref rC_unsureWords, .ref rC_unsureWorths])), (rC_kind, .inl (kC_kind, 18, .inl fC_kind)), (rC_parts, .inl (kC_parts, 18, .inl fC_parts)), (rC_weightSums, .inl (kC_weightSums, 18, .inl fC_weightSums)), (rC_toldWorths, .inl (kC_toldWorths, 18, .inl fC_toldWorths)), (rC_steps, .inl (kC_steps, 18, .inl fC_steps)), (rC_below, .inl (kC_below, 18, .inl fC_below)), (rC_above, .inl (kC_above, 18, .inl fC_above))] sz)) 0 0 (va_A [(hC, .inr (1, [.int iC_nodes, .int iC_words, .int iC_chances, .int iC_unsures, .int iC_slips, .int iC_throneNode, .int iC_saidWorth, .int iC_unit, .ref rC_kind, .ref rC_parts, .ref rC_partNodes, .ref rC_weights, .ref rC_weightSums, .ref rC_toldWorths, .ref rC_steps, .ref rC_below, .ref rC_above, .ref rC_unsureWords, .ref rC_unsureWorths])), (rC_kind, .inl (kC_kind, 18, .inl fC_kind)), (rC_parts, .inl (kC_parts, 18, .inl fC_parts)), (rC_weightSums, .inl (kC_weightSums, 18, .inl fC_weightSums)), (rC_toldWorths, .inl (kC_toldWorths, 18, .inl fC_toldWorths)), (rC_steps, .inl (kC_steps, 18, .inl fC_steps)), (rC_below, .inl (kC_below, 18, .inl fC_below)), (rC_above, .inl (kC_above, 18, .inl fC_above))] sz) := by
  refine Met.ofW (cc := cX1_beginNode) (maxL := 2) (ret := none) (by decide) rfl ?_
  intro p e s m args below meth c s₁ B hml hv
  obtain ⟨rfl, hsz, hP, hK, hD0, hE⟩ := hv
  have hx := B.exec
  have hb := B.bytes
  have hr := B.returns
  have hts : ∀ w ∈ wG, w.before ([.ref hC, .int p0] : List Value).toArray s = true := fun w h => atoms_spec (ws := Cond.code yX1_beginNode cX1_beginNode 2 none :: wG) B.pre w (List.mem_cons_of_mem _ h)
  have hown : s.vm.findClass RX1 = some m.cls := findClass_of_methodNamed B.named
  have hlocks := B.notSynchronized
  subst hsz
  have hD := hD0.self (sz := s.heap.size)
  generalize hAe : va_A [(hC, .inr (1, [.int iC_nodes, .int iC_words, .int iC_chances, .int iC_unsures, .int iC_slips, .int iC_throneNode, .int iC_saidWorth, .int iC_unit, .ref rC_kind, .ref rC_parts, .ref rC_partNodes, .ref rC_weights, .ref rC_weightSums, .ref rC_toldWorths, .ref rC_steps, .ref rC_below, .ref rC_above, .ref rC_unsureWords, .ref rC_unsureWorths])), (rC_kind, .inl (kC_kind, 18, .inl fC_kind)), (rC_parts, .inl (kC_parts, 18, .inl fC_parts)), (rC_weightSums, .inl (kC_weightSums, 18, .inl fC_weightSums)), (rC_toldWorths, .inl (kC_toldWorths, 18, .inl fC_toldWorths)), (rC_steps, .inl (kC_steps, 18, .inl fC_steps)), (rC_below, .inl (kC_below, 18, .inl fC_below)), (rC_above, .inl (kC_above, 18, .inl fC_above))] s.heap.size = A at hD hE ⊢
  have hA : ∀ q : Nat, s.heap.size ≤ q → A q := fun q h => by rw [← hAe]; exact Or.inr h
  have hS : va_S A s.heap s.heap [] := va_S.rf
  have hl := lv_entry ([.ref hC, .int p0]) (n := 2) (Nat.le_of_ble_eq_true rfl)
  rw [lg_entry_eq]
  generalize (lg_sl ([.ref hC, .int p0]) ++ List.replicate (2 - (lg_sl ([.ref hC, .int p0])).length) Slot.unset).toArray = ls at hl ⊢
  have hl : lv_has ls 2 [(0, .ref hC), (1, .int p0)] := hl
  have rg_p0 := fb_rng p0
  refine lv_aload_n hx hb dX1_beginNode_0 rfl (lv_at hl 0 rfl) ?_
  refine va_get (D := (dC, dI)) (ci := 1) (v := .int iC_nodes) (C := RX1) (T := TX1) (N := 19) hx hb hts inX1 hown hK hP 0 rfl rfl 0 (by decide) (hts _ wd_215) (fun _ h9 => h9) rfl dX1_beginNode_1 ?_
  have rg_iC_nodes := fb_rng iC_nodes
  refine lv_bipush (v := 18) hx hb dX1_beginNode_4 (by decide) ?_
  refine lv_icmp_ge (tgt := 92) hx hb dX1_beginNode_6 (by decide) (fun c_47 => ?_) (fun c_47 => ?_)
  · skip
    have gc_47 := ti_le c_47 kc_18 rfl
    have hP9 := hP.sub (ws' := [(hC, .inr (1, [.int iC_nodes, .int iC_words, .int iC_chances, .int iC_unsures, .int iC_slips, .int iC_throneNode, .int iC_saidWorth, .int iC_unit, .ref rC_kind, .ref rC_parts, .ref rC_partNodes, .ref rC_weights, .ref rC_weightSums, .ref rC_toldWorths, .ref rC_steps, .ref rC_below, .ref rC_above, .ref rC_unsureWords, .ref rC_unsureWorths])), (rC_kind, .inl (kC_kind, 18, .inl fC_kind)), (rC_parts, .inl (kC_parts, 18, .inl fC_parts)), (rC_weightSums, .inl (kC_weightSums, 18, .inl fC_weightSums)), (rC_toldWorths, .inl (kC_toldWorths, 18, .inl fC_toldWorths)), (rC_steps, .inl (kC_steps, 18, .inl fC_steps)), (rC_below, .inl (kC_below, 18, .inl fC_below)), (rC_above, .inl (kC_above, 18, .inl fC_above))]) [0, 1, 2, 3, 4, 5, 6, 7] rfl
    have hD9 := hD.sub (ws' := [(hC, .inr (1, [.int iC_nodes, .int iC_words, .int iC_chances, .int iC_unsures, .int iC_slips, .int iC_throneNode, .int iC_saidWorth, .int iC_unit, .ref rC_kind, .ref rC_parts, .ref rC_partNodes, .ref rC_weights, .ref rC_weightSums, .ref rC_toldWorths, .ref rC_steps, .ref rC_below, .ref rC_above, .ref rC_unsureWords, .ref rC_unsureWorths])), (rC_kind, .inl (kC_kind, 18, .inl fC_kind)), (rC_parts, .inl (kC_parts, 18, .inl fC_parts)), (rC_weightSums, .inl (kC_weightSums, 18, .inl fC_weightSums)), (rC_toldWorths, .inl (kC_toldWorths, 18, .inl fC_toldWorths)), (rC_steps, .inl (kC_steps, 18, .inl fC_steps)), (rC_below, .inl (kC_below, 18, .inl fC_below)), (rC_above, .inl (kC_above, 18, .inl fC_above))]) [0, 1, 2, 3, 4, 5, 6, 7] (by decide) rfl
    have hK9 := hK.sub (tys' := [(kC_kind, .int), (kC_parts, .int), (kC_weightSums, .int), (kC_toldWorths, .int), (kC_steps, .int), (kC_below, .int), (kC_above, .int)]) [0, 1, 2, 3, 4, 5, 6] rfl
    exact W.vret hx hb hr (fun t ht hW => ⟨⟨0, rfl, trivial, ⟨fC_kind, fC_parts, fC_weightSums, fC_toldWorths, fC_steps, fC_below, fC_above, a_fC_parts, Bw.to hP9 hD9 hK9 ht hW⟩⟩, hS.F ht⟩) hS.2.2 dX1_beginNode_92
  · skip
    have gc_47 := ti_nle c_47 kc_18 rfl
    refine lv_aload_n hx hb dX1_beginNode_9 rfl (lv_at hl 0 rfl) ?_
    refine va_get (D := (dC, dI)) (ci := 1) (v := .ref rC_kind) (C := RX1) (T := TX1) (N := 19) hx hb hts inX1 hown hK hP 0 rfl rfl 8 (by decide) (hts _ wd_54) (fun _ h9 => h9) rfl dX1_beginNode_10 ?_
    refine lv_aload_n hx hb dX1_beginNode_13 rfl (lv_at hl 0 rfl) ?_
    refine va_get (D := (dC, dI)) (ci := 1) (v := .int iC_nodes) (C := RX1) (T := TX1) (N := 19) hx hb hts inX1 hown hK hP 0 rfl rfl 0 (by decide) (hts _ wd_215) (fun _ h9 => h9) rfl dX1_beginNode_14 ?_
    refine lv_iload_n hx hb dX1_beginNode_17 rfl (lv_at hl 1 rfl) ?_
    refine vz_iast hx hb hK hP hD hS 1 0 rfl rfl (ti_in rfl (by omega) (by omega)) dX1_beginNode_18 (fun H locs f_48 hP hD hS => ?_)
    have hP : va_P (dC, dI) vwCl [(hC, .inr (1, [.int iC_nodes, .int iC_words, .int iC_chances, .int iC_unsures, .int iC_slips, .int iC_throneNode, .int iC_saidWorth, .int iC_unit, .ref rC_kind, .ref rC_parts, .ref rC_partNodes, .ref rC_weights, .ref rC_weightSums, .ref rC_toldWorths, .ref rC_steps, .ref rC_below, .ref rC_above, .ref rC_unsureWords, .ref rC_unsureWorths])), (rC_kind, .inl (kC_kind, 18, .inl f_48)), (rC_parts, .inl (kC_parts, 18, .inl fC_parts)), (rC_weightSums, .inl (kC_weightSums, 18, .inl fC_weightSums)), (rC_toldWorths, .inl (kC_toldWorths, 18, .inl fC_toldWorths)), (rC_steps, .inl (kC_steps, 18, .inl fC_steps)), (rC_below, .inl (kC_below, 18, .inl fC_below)), (rC_above, .inl (kC_above, 18, .inl fC_above))] H := hP
    have hD : va_D A [(hC, .inr (1, [.int iC_nodes, .int iC_words, .int iC_chances, .int iC_unsures, .int iC_slips, .int iC_throneNode, .int iC_saidWorth, .int iC_unit, .ref rC_kind, .ref rC_parts, .ref rC_partNodes, .ref rC_weights, .ref rC_weightSums, .ref rC_toldWorths, .ref rC_steps, .ref rC_below, .ref rC_above, .ref rC_unsureWords, .ref rC_unsureWorths])), (rC_kind, .inl (kC_kind, 18, .inl f_48)), (rC_parts, .inl (kC_parts, 18, .inl fC_parts)), (rC_weightSums, .inl (kC_weightSums, 18, .inl fC_weightSums)), (rC_toldWorths, .inl (kC_toldWorths, 18, .inl fC_toldWorths)), (rC_steps, .inl (kC_steps, 18, .inl fC_steps)), (rC_below, .inl (kC_below, 18, .inl fC_below)), (rC_above, .inl (kC_above, 18, .inl fC_above))] := hD
    refine lv_aload_n hx hb dX1_beginNode_19 rfl (lv_at hl 0 rfl) ?_
    refine va_get (D := (dC, dI)) (ci := 1) (v := .ref rC_parts) (C := RX1) (T := TX1) (N := 19) hx hb hts inX1 hown hK hP 0 rfl rfl 9 (by decide) (hts _ wd_55) (fun _ h9 => h9) rfl dX1_beginNode_20 ?_
    refine lv_aload_n hx hb dX1_beginNode_23 rfl (lv_at hl 0 rfl) ?_
    refine va_get (D := (dC, dI)) (ci := 1) (v := .int iC_nodes) (C := RX1) (T := TX1) (N := 19) hx hb hts inX1 hown hK hP 0 rfl rfl 0 (by decide) (hts _ wd_215) (fun _ h9 => h9) rfl dX1_beginNode_24 ?_
    refine lv_iconst (v := 0) hx hb dX1_beginNode_27 (by decide) ?_
    refine vi_iast (lo := 0) (hi := 4) hx hb hK hP hD hS 2 1 rfl rfl (ti_in rfl (by omega) (by omega)) a_fC_parts (by decide) dX1_beginNode_28 (fun H locs f_49 a_f_49 hP hD hS => ?_)
    have hP : va_P (dC, dI) vwCl [(hC, .inr (1, [.int iC_nodes, .int iC_words, .int iC_chances, .int iC_unsures, .int iC_slips, .int iC_throneNode, .int iC_saidWorth, .int iC_unit, .ref rC_kind, .ref rC_parts, .ref rC_partNodes, .ref rC_weights, .ref rC_weightSums, .ref rC_toldWorths, .ref rC_steps, .ref rC_below, .ref rC_above, .ref rC_unsureWords, .ref rC_unsureWorths])), (rC_kind, .inl (kC_kind, 18, .inl f_48)), (rC_parts, .inl (kC_parts, 18, .inl f_49)), (rC_weightSums, .inl (kC_weightSums, 18, .inl fC_weightSums)), (rC_toldWorths, .inl (kC_toldWorths, 18, .inl fC_toldWorths)), (rC_steps, .inl (kC_steps, 18, .inl fC_steps)), (rC_below, .inl (kC_below, 18, .inl fC_below)), (rC_above, .inl (kC_above, 18, .inl fC_above))] H := hP
    have hD : va_D A [(hC, .inr (1, [.int iC_nodes, .int iC_words, .int iC_chances, .int iC_unsures, .int iC_slips, .int iC_throneNode, .int iC_saidWorth, .int iC_unit, .ref rC_kind, .ref rC_parts, .ref rC_partNodes, .ref rC_weights, .ref rC_weightSums, .ref rC_toldWorths, .ref rC_steps, .ref rC_below, .ref rC_above, .ref rC_unsureWords, .ref rC_unsureWorths])), (rC_kind, .inl (kC_kind, 18, .inl f_48)), (rC_parts, .inl (kC_parts, 18, .inl f_49)), (rC_weightSums, .inl (kC_weightSums, 18, .inl fC_weightSums)), (rC_toldWorths, .inl (kC_toldWorths, 18, .inl fC_toldWorths)), (rC_steps, .inl (kC_steps, 18, .inl fC_steps)), (rC_below, .inl (kC_below, 18, .inl fC_below)), (rC_above, .inl (kC_above, 18, .inl fC_above))] := hD
    refine lv_aload_n hx hb dX1_beginNode_29 rfl (lv_at hl 0 rfl) ?_
    refine va_get (D := (dC, dI)) (ci := 1) (v := .ref rC_weightSums) (C := RX1) (T := TX1) (N := 19) hx hb hts inX1 hown hK hP 0 rfl rfl 12 (by decide) (hts _ wd_58) (fun _ h9 => h9) rfl dX1_beginNode_30 ?_
    refine lv_aload_n hx hb dX1_beginNode_33 rfl (lv_at hl 0 rfl) ?_
    refine va_get (D := (dC, dI)) (ci := 1) (v := .int iC_nodes) (C := RX1) (T := TX1) (N := 19) hx hb hts inX1 hown hK hP 0 rfl rfl 0 (by decide) (hts _ wd_215) (fun _ h9 => h9) rfl dX1_beginNode_34 ?_
    refine lv_iconst (v := 0) hx hb dX1_beginNode_37 (by decide) ?_
    refine vz_iast hx hb hK hP hD hS 3 2 rfl rfl (ti_in rfl (by omega) (by omega)) dX1_beginNode_38 (fun H locs f_50 hP hD hS => ?_)
    have hP : va_P (dC, dI) vwCl [(hC, .inr (1, [.int iC_nodes, .int iC_words, .int iC_chances, .int iC_unsures, .int iC_slips, .int iC_throneNode, .int iC_saidWorth, .int iC_unit, .ref rC_kind, .ref rC_parts, .ref rC_partNodes, .ref rC_weights, .ref rC_weightSums, .ref rC_toldWorths, .ref rC_steps, .ref rC_below, .ref rC_above, .ref rC_unsureWords, .ref rC_unsureWorths])), (rC_kind, .inl (kC_kind, 18, .inl f_48)), (rC_parts, .inl (kC_parts, 18, .inl f_49)), (rC_weightSums, .inl (kC_weightSums, 18, .inl f_50)), (rC_toldWorths, .inl (kC_toldWorths, 18, .inl fC_toldWorths)), (rC_steps, .inl (kC_steps, 18, .inl fC_steps)), (rC_below, .inl (kC_below, 18, .inl fC_below)), (rC_above, .inl (kC_above, 18, .inl fC_above))] H := hP
    have hD : va_D A [(hC, .inr (1, [.int iC_nodes, .int iC_words, .int iC_chances, .int iC_unsures, .int iC_slips, .int iC_throneNode, .int iC_saidWorth, .int iC_unit, .ref rC_kind, .ref rC_parts, .ref rC_partNodes, .ref rC_weights, .ref rC_weightSums, .ref rC_toldWorths, .ref rC_steps, .ref rC_below, .ref rC_above, .ref rC_unsureWords, .ref rC_unsureWorths])), (rC_kind, .inl (kC_kind, 18, .inl f_48)), (rC_parts, .inl (kC_parts, 18, .inl f_49)), (rC_weightSums, .inl (kC_weightSums, 18, .inl f_50)), (rC_toldWorths, .inl (kC_toldWorths, 18, .inl fC_toldWorths)), (rC_steps, .inl (kC_steps, 18, .inl fC_steps)), (rC_below, .inl (kC_below, 18, .inl fC_below)), (rC_above, .inl (kC_above, 18, .inl fC_above))] := hD
    refine lv_aload_n hx hb dX1_beginNode_39 rfl (lv_at hl 0 rfl) ?_
    refine va_get (D := (dC, dI)) (ci := 1) (v := .ref rC_toldWorths) (C := RX1) (T := TX1) (N := 19) hx hb hts inX1 hown hK hP 0 rfl rfl 13 (by decide) (hts _ wd_59) (fun _ h9 => h9) rfl dX1_beginNode_40 ?_
    refine lv_aload_n hx hb dX1_beginNode_43 rfl (lv_at hl 0 rfl) ?_
    refine va_get (D := (dC, dI)) (ci := 1) (v := .int iC_nodes) (C := RX1) (T := TX1) (N := 19) hx hb hts inX1 hown hK hP 0 rfl rfl 0 (by decide) (hts _ wd_215) (fun _ h9 => h9) rfl dX1_beginNode_44 ?_
    refine lv_iconst (v := 0) hx hb dX1_beginNode_47 (by decide) ?_
    refine vz_iast hx hb hK hP hD hS 4 3 rfl rfl (ti_in rfl (by omega) (by omega)) dX1_beginNode_48 (fun H locs f_51 hP hD hS => ?_)
    have hP : va_P (dC, dI) vwCl [(hC, .inr (1, [.int iC_nodes, .int iC_words, .int iC_chances, .int iC_unsures, .int iC_slips, .int iC_throneNode, .int iC_saidWorth, .int iC_unit, .ref rC_kind, .ref rC_parts, .ref rC_partNodes, .ref rC_weights, .ref rC_weightSums, .ref rC_toldWorths, .ref rC_steps, .ref rC_below, .ref rC_above, .ref rC_unsureWords, .ref rC_unsureWorths])), (rC_kind, .inl (kC_kind, 18, .inl f_48)), (rC_parts, .inl (kC_parts, 18, .inl f_49)), (rC_weightSums, .inl (kC_weightSums, 18, .inl f_50)), (rC_toldWorths, .inl (kC_toldWorths, 18, .inl f_51)), (rC_steps, .inl (kC_steps, 18, .inl fC_steps)), (rC_below, .inl (kC_below, 18, .inl fC_below)), (rC_above, .inl (kC_above, 18, .inl fC_above))] H := hP
    have hD : va_D A [(hC, .inr (1, [.int iC_nodes, .int iC_words, .int iC_chances, .int iC_unsures, .int iC_slips, .int iC_throneNode, .int iC_saidWorth, .int iC_unit, .ref rC_kind, .ref rC_parts, .ref rC_partNodes, .ref rC_weights, .ref rC_weightSums, .ref rC_toldWorths, .ref rC_steps, .ref rC_below, .ref rC_above, .ref rC_unsureWords, .ref rC_unsureWorths])), (rC_kind, .inl (kC_kind, 18, .inl f_48)), (rC_parts, .inl (kC_parts, 18, .inl f_49)), (rC_weightSums, .inl (kC_weightSums, 18, .inl f_50)), (rC_toldWorths, .inl (kC_toldWorths, 18, .inl f_51)), (rC_steps, .inl (kC_steps, 18, .inl fC_steps)), (rC_below, .inl (kC_below, 18, .inl fC_below)), (rC_above, .inl (kC_above, 18, .inl fC_above))] := hD
    refine lv_aload_n hx hb dX1_beginNode_49 rfl (lv_at hl 0 rfl) ?_
    refine va_get (D := (dC, dI)) (ci := 1) (v := .ref rC_steps) (C := RX1) (T := TX1) (N := 19) hx hb hts inX1 hown hK hP 0 rfl rfl 14 (by decide) (hts _ wd_60) (fun _ h9 => h9) rfl dX1_beginNode_50 ?_
    refine lv_aload_n hx hb dX1_beginNode_53 rfl (lv_at hl 0 rfl) ?_
    refine va_get (D := (dC, dI)) (ci := 1) (v := .int iC_nodes) (C := RX1) (T := TX1) (N := 19) hx hb hts inX1 hown hK hP 0 rfl rfl 0 (by decide) (hts _ wd_215) (fun _ h9 => h9) rfl dX1_beginNode_54 ?_
    refine lv_iconst (v := 0) hx hb dX1_beginNode_57 (by decide) ?_
    refine vz_iast hx hb hK hP hD hS 5 4 rfl rfl (ti_in rfl (by omega) (by omega)) dX1_beginNode_58 (fun H locs f_52 hP hD hS => ?_)
    have hP : va_P (dC, dI) vwCl [(hC, .inr (1, [.int iC_nodes, .int iC_words, .int iC_chances, .int iC_unsures, .int iC_slips, .int iC_throneNode, .int iC_saidWorth, .int iC_unit, .ref rC_kind, .ref rC_parts, .ref rC_partNodes, .ref rC_weights, .ref rC_weightSums, .ref rC_toldWorths, .ref rC_steps, .ref rC_below, .ref rC_above, .ref rC_unsureWords, .ref rC_unsureWorths])), (rC_kind, .inl (kC_kind, 18, .inl f_48)), (rC_parts, .inl (kC_parts, 18, .inl f_49)), (rC_weightSums, .inl (kC_weightSums, 18, .inl f_50)), (rC_toldWorths, .inl (kC_toldWorths, 18, .inl f_51)), (rC_steps, .inl (kC_steps, 18, .inl f_52)), (rC_below, .inl (kC_below, 18, .inl fC_below)), (rC_above, .inl (kC_above, 18, .inl fC_above))] H := hP
    have hD : va_D A [(hC, .inr (1, [.int iC_nodes, .int iC_words, .int iC_chances, .int iC_unsures, .int iC_slips, .int iC_throneNode, .int iC_saidWorth, .int iC_unit, .ref rC_kind, .ref rC_parts, .ref rC_partNodes, .ref rC_weights, .ref rC_weightSums, .ref rC_toldWorths, .ref rC_steps, .ref rC_below, .ref rC_above, .ref rC_unsureWords, .ref rC_unsureWorths])), (rC_kind, .inl (kC_kind, 18, .inl f_48)), (rC_parts, .inl (kC_parts, 18, .inl f_49)), (rC_weightSums, .inl (kC_weightSums, 18, .inl f_50)), (rC_toldWorths, .inl (kC_toldWorths, 18, .inl f_51)), (rC_steps, .inl (kC_steps, 18, .inl f_52)), (rC_below, .inl (kC_below, 18, .inl fC_below)), (rC_above, .inl (kC_above, 18, .inl fC_above))] := hD
    refine lv_aload_n hx hb dX1_beginNode_59 rfl (lv_at hl 0 rfl) ?_
    refine va_get (D := (dC, dI)) (ci := 1) (v := .ref rC_below) (C := RX1) (T := TX1) (N := 19) hx hb hts inX1 hown hK hP 0 rfl rfl 15 (by decide) (hts _ wd_61) (fun _ h9 => h9) rfl dX1_beginNode_60 ?_
    refine lv_aload_n hx hb dX1_beginNode_63 rfl (lv_at hl 0 rfl) ?_
    refine va_get (D := (dC, dI)) (ci := 1) (v := .int iC_nodes) (C := RX1) (T := TX1) (N := 19) hx hb hts inX1 hown hK hP 0 rfl rfl 0 (by decide) (hts _ wd_215) (fun _ h9 => h9) rfl dX1_beginNode_64 ?_
    refine lv_iload_n hx hb dX1_beginNode_67 rfl (lv_at hl 1 rfl) ?_
    refine lv_if_ne (tgt := 80) hx hb dX1_beginNode_68 (by decide) (fun c_53 => ?_) (fun c_53 => ?_)
    · skip
      have gc_53 := ti_ne c_53 rfl kc_0
      refine lv_iconst (v := 0) hx hb dX1_beginNode_80 (by decide) ?_
      refine vz_iast hx hb hK hP hD hS 6 5 rfl rfl (ti_in rfl (by omega) (by omega)) dX1_beginNode_81 (fun H locs f_54 hP hD hS => ?_)
      have hP : va_P (dC, dI) vwCl [(hC, .inr (1, [.int iC_nodes, .int iC_words, .int iC_chances, .int iC_unsures, .int iC_slips, .int iC_throneNode, .int iC_saidWorth, .int iC_unit, .ref rC_kind, .ref rC_parts, .ref rC_partNodes, .ref rC_weights, .ref rC_weightSums, .ref rC_toldWorths, .ref rC_steps, .ref rC_below, .ref rC_above, .ref rC_unsureWords, .ref rC_unsureWorths])), (rC_kind, .inl (kC_kind, 18, .inl f_48)), (rC_parts, .inl (kC_parts, 18, .inl f_49)), (rC_weightSums, .inl (kC_weightSums, 18, .inl f_50)), (rC_toldWorths, .inl (kC_toldWorths, 18, .inl f_51)), (rC_steps, .inl (kC_steps, 18, .inl f_52)), (rC_below, .inl (kC_below, 18, .inl f_54)), (rC_above, .inl (kC_above, 18, .inl fC_above))] H := hP
      have hD : va_D A [(hC, .inr (1, [.int iC_nodes, .int iC_words, .int iC_chances, .int iC_unsures, .int iC_slips, .int iC_throneNode, .int iC_saidWorth, .int iC_unit, .ref rC_kind, .ref rC_parts, .ref rC_partNodes, .ref rC_weights, .ref rC_weightSums, .ref rC_toldWorths, .ref rC_steps, .ref rC_below, .ref rC_above, .ref rC_unsureWords, .ref rC_unsureWorths])), (rC_kind, .inl (kC_kind, 18, .inl f_48)), (rC_parts, .inl (kC_parts, 18, .inl f_49)), (rC_weightSums, .inl (kC_weightSums, 18, .inl f_50)), (rC_toldWorths, .inl (kC_toldWorths, 18, .inl f_51)), (rC_steps, .inl (kC_steps, 18, .inl f_52)), (rC_below, .inl (kC_below, 18, .inl f_54)), (rC_above, .inl (kC_above, 18, .inl fC_above))] := hD
      refine lv_aload_n hx hb dX1_beginNode_82 rfl (lv_at hl 0 rfl) ?_
      refine va_get (D := (dC, dI)) (ci := 1) (v := .ref rC_above) (C := RX1) (T := TX1) (N := 19) hx hb hts inX1 hown hK hP 0 rfl rfl 16 (by decide) (hts _ wd_62) (fun _ h9 => h9) rfl dX1_beginNode_83 ?_
      refine lv_aload_n hx hb dX1_beginNode_86 rfl (lv_at hl 0 rfl) ?_
      refine va_get (D := (dC, dI)) (ci := 1) (v := .int iC_nodes) (C := RX1) (T := TX1) (N := 19) hx hb hts inX1 hown hK hP 0 rfl rfl 0 (by decide) (hts _ wd_215) (fun _ h9 => h9) rfl dX1_beginNode_87 ?_
      refine lv_iconst (v := 0) hx hb dX1_beginNode_90 (by decide) ?_
      refine vz_iast hx hb hK hP hD hS 7 6 rfl rfl (ti_in rfl (by omega) (by omega)) dX1_beginNode_91 (fun H locs f_55 hP hD hS => ?_)
      have hP : va_P (dC, dI) vwCl [(hC, .inr (1, [.int iC_nodes, .int iC_words, .int iC_chances, .int iC_unsures, .int iC_slips, .int iC_throneNode, .int iC_saidWorth, .int iC_unit, .ref rC_kind, .ref rC_parts, .ref rC_partNodes, .ref rC_weights, .ref rC_weightSums, .ref rC_toldWorths, .ref rC_steps, .ref rC_below, .ref rC_above, .ref rC_unsureWords, .ref rC_unsureWorths])), (rC_kind, .inl (kC_kind, 18, .inl f_48)), (rC_parts, .inl (kC_parts, 18, .inl f_49)), (rC_weightSums, .inl (kC_weightSums, 18, .inl f_50)), (rC_toldWorths, .inl (kC_toldWorths, 18, .inl f_51)), (rC_steps, .inl (kC_steps, 18, .inl f_52)), (rC_below, .inl (kC_below, 18, .inl f_54)), (rC_above, .inl (kC_above, 18, .inl f_55))] H := hP
      have hD : va_D A [(hC, .inr (1, [.int iC_nodes, .int iC_words, .int iC_chances, .int iC_unsures, .int iC_slips, .int iC_throneNode, .int iC_saidWorth, .int iC_unit, .ref rC_kind, .ref rC_parts, .ref rC_partNodes, .ref rC_weights, .ref rC_weightSums, .ref rC_toldWorths, .ref rC_steps, .ref rC_below, .ref rC_above, .ref rC_unsureWords, .ref rC_unsureWorths])), (rC_kind, .inl (kC_kind, 18, .inl f_48)), (rC_parts, .inl (kC_parts, 18, .inl f_49)), (rC_weightSums, .inl (kC_weightSums, 18, .inl f_50)), (rC_toldWorths, .inl (kC_toldWorths, 18, .inl f_51)), (rC_steps, .inl (kC_steps, 18, .inl f_52)), (rC_below, .inl (kC_below, 18, .inl f_54)), (rC_above, .inl (kC_above, 18, .inl f_55))] := hD
      have hP9 := hP.sub (ws' := [(hC, .inr (1, [.int iC_nodes, .int iC_words, .int iC_chances, .int iC_unsures, .int iC_slips, .int iC_throneNode, .int iC_saidWorth, .int iC_unit, .ref rC_kind, .ref rC_parts, .ref rC_partNodes, .ref rC_weights, .ref rC_weightSums, .ref rC_toldWorths, .ref rC_steps, .ref rC_below, .ref rC_above, .ref rC_unsureWords, .ref rC_unsureWorths])), (rC_kind, .inl (kC_kind, 18, .inl f_48)), (rC_parts, .inl (kC_parts, 18, .inl f_49)), (rC_weightSums, .inl (kC_weightSums, 18, .inl f_50)), (rC_toldWorths, .inl (kC_toldWorths, 18, .inl f_51)), (rC_steps, .inl (kC_steps, 18, .inl f_52)), (rC_below, .inl (kC_below, 18, .inl f_54)), (rC_above, .inl (kC_above, 18, .inl f_55))]) [0, 1, 2, 3, 4, 5, 6, 7] rfl
      have hD9 := hD.sub (ws' := [(hC, .inr (1, [.int iC_nodes, .int iC_words, .int iC_chances, .int iC_unsures, .int iC_slips, .int iC_throneNode, .int iC_saidWorth, .int iC_unit, .ref rC_kind, .ref rC_parts, .ref rC_partNodes, .ref rC_weights, .ref rC_weightSums, .ref rC_toldWorths, .ref rC_steps, .ref rC_below, .ref rC_above, .ref rC_unsureWords, .ref rC_unsureWorths])), (rC_kind, .inl (kC_kind, 18, .inl f_48)), (rC_parts, .inl (kC_parts, 18, .inl f_49)), (rC_weightSums, .inl (kC_weightSums, 18, .inl f_50)), (rC_toldWorths, .inl (kC_toldWorths, 18, .inl f_51)), (rC_steps, .inl (kC_steps, 18, .inl f_52)), (rC_below, .inl (kC_below, 18, .inl f_54)), (rC_above, .inl (kC_above, 18, .inl f_55))]) [0, 1, 2, 3, 4, 5, 6, 7] (by decide) rfl
      have hK9 := hK.sub (tys' := [(kC_kind, .int), (kC_parts, .int), (kC_weightSums, .int), (kC_toldWorths, .int), (kC_steps, .int), (kC_below, .int), (kC_above, .int)]) [0, 1, 2, 3, 4, 5, 6] rfl
      exact W.vret hx hb hr (fun t ht hW => ⟨⟨0, rfl, trivial, ⟨f_48, f_49, f_50, f_51, f_52, f_54, f_55, a_f_49, Bw.to hP9 hD9 hK9 ht hW⟩⟩, hS.F ht⟩) hS.2.2 dX1_beginNode_92
    · skip
      have gc_53 := ti_eq c_53 rfl kc_0
      refine lv_iconst (v := 1) hx hb dX1_beginNode_71 (by decide) ?_
      refine lv_aload_n hx hb dX1_beginNode_72 rfl (lv_at hl 0 rfl) ?_
      refine va_get (D := (dC, dI)) (ci := 1) (v := .int iC_nodes) (C := RX1) (T := TX1) (N := 19) hx hb hts inX1 hown hK hP 0 rfl rfl 0 (by decide) (hts _ wd_215) (fun _ h9 => h9) rfl dX1_beginNode_73 ?_
      refine lv_ishl hx hb dX1_beginNode_76 ?_
      refine lv_topi (fun x_56 ex_56 => ?_)
      have rg_x_56 := fb_rng x_56
      refine lv_goto (tgt := 81) hx hb dX1_beginNode_77 (by decide) ?_
      refine vz_iast hx hb hK hP hD hS 6 5 rfl rfl (ti_in rfl (by omega) (by omega)) dX1_beginNode_81 (fun H locs f_57 hP hD hS => ?_)
      have hP : va_P (dC, dI) vwCl [(hC, .inr (1, [.int iC_nodes, .int iC_words, .int iC_chances, .int iC_unsures, .int iC_slips, .int iC_throneNode, .int iC_saidWorth, .int iC_unit, .ref rC_kind, .ref rC_parts, .ref rC_partNodes, .ref rC_weights, .ref rC_weightSums, .ref rC_toldWorths, .ref rC_steps, .ref rC_below, .ref rC_above, .ref rC_unsureWords, .ref rC_unsureWorths])), (rC_kind, .inl (kC_kind, 18, .inl f_48)), (rC_parts, .inl (kC_parts, 18, .inl f_49)), (rC_weightSums, .inl (kC_weightSums, 18, .inl f_50)), (rC_toldWorths, .inl (kC_toldWorths, 18, .inl f_51)), (rC_steps, .inl (kC_steps, 18, .inl f_52)), (rC_below, .inl (kC_below, 18, .inl f_57)), (rC_above, .inl (kC_above, 18, .inl fC_above))] H := hP
      have hD : va_D A [(hC, .inr (1, [.int iC_nodes, .int iC_words, .int iC_chances, .int iC_unsures, .int iC_slips, .int iC_throneNode, .int iC_saidWorth, .int iC_unit, .ref rC_kind, .ref rC_parts, .ref rC_partNodes, .ref rC_weights, .ref rC_weightSums, .ref rC_toldWorths, .ref rC_steps, .ref rC_below, .ref rC_above, .ref rC_unsureWords, .ref rC_unsureWorths])), (rC_kind, .inl (kC_kind, 18, .inl f_48)), (rC_parts, .inl (kC_parts, 18, .inl f_49)), (rC_weightSums, .inl (kC_weightSums, 18, .inl f_50)), (rC_toldWorths, .inl (kC_toldWorths, 18, .inl f_51)), (rC_steps, .inl (kC_steps, 18, .inl f_52)), (rC_below, .inl (kC_below, 18, .inl f_57)), (rC_above, .inl (kC_above, 18, .inl fC_above))] := hD
      refine lv_aload_n hx hb dX1_beginNode_82 rfl (lv_at hl 0 rfl) ?_
      refine va_get (D := (dC, dI)) (ci := 1) (v := .ref rC_above) (C := RX1) (T := TX1) (N := 19) hx hb hts inX1 hown hK hP 0 rfl rfl 16 (by decide) (hts _ wd_62) (fun _ h9 => h9) rfl dX1_beginNode_83 ?_
      refine lv_aload_n hx hb dX1_beginNode_86 rfl (lv_at hl 0 rfl) ?_
      refine va_get (D := (dC, dI)) (ci := 1) (v := .int iC_nodes) (C := RX1) (T := TX1) (N := 19) hx hb hts inX1 hown hK hP 0 rfl rfl 0 (by decide) (hts _ wd_215) (fun _ h9 => h9) rfl dX1_beginNode_87 ?_
      refine lv_iconst (v := 0) hx hb dX1_beginNode_90 (by decide) ?_
      refine vz_iast hx hb hK hP hD hS 7 6 rfl rfl (ti_in rfl (by omega) (by omega)) dX1_beginNode_91 (fun H locs f_58 hP hD hS => ?_)
      have hP : va_P (dC, dI) vwCl [(hC, .inr (1, [.int iC_nodes, .int iC_words, .int iC_chances, .int iC_unsures, .int iC_slips, .int iC_throneNode, .int iC_saidWorth, .int iC_unit, .ref rC_kind, .ref rC_parts, .ref rC_partNodes, .ref rC_weights, .ref rC_weightSums, .ref rC_toldWorths, .ref rC_steps, .ref rC_below, .ref rC_above, .ref rC_unsureWords, .ref rC_unsureWorths])), (rC_kind, .inl (kC_kind, 18, .inl f_48)), (rC_parts, .inl (kC_parts, 18, .inl f_49)), (rC_weightSums, .inl (kC_weightSums, 18, .inl f_50)), (rC_toldWorths, .inl (kC_toldWorths, 18, .inl f_51)), (rC_steps, .inl (kC_steps, 18, .inl f_52)), (rC_below, .inl (kC_below, 18, .inl f_57)), (rC_above, .inl (kC_above, 18, .inl f_58))] H := hP
      have hD : va_D A [(hC, .inr (1, [.int iC_nodes, .int iC_words, .int iC_chances, .int iC_unsures, .int iC_slips, .int iC_throneNode, .int iC_saidWorth, .int iC_unit, .ref rC_kind, .ref rC_parts, .ref rC_partNodes, .ref rC_weights, .ref rC_weightSums, .ref rC_toldWorths, .ref rC_steps, .ref rC_below, .ref rC_above, .ref rC_unsureWords, .ref rC_unsureWorths])), (rC_kind, .inl (kC_kind, 18, .inl f_48)), (rC_parts, .inl (kC_parts, 18, .inl f_49)), (rC_weightSums, .inl (kC_weightSums, 18, .inl f_50)), (rC_toldWorths, .inl (kC_toldWorths, 18, .inl f_51)), (rC_steps, .inl (kC_steps, 18, .inl f_52)), (rC_below, .inl (kC_below, 18, .inl f_57)), (rC_above, .inl (kC_above, 18, .inl f_58))] := hD
      have hP9 := hP.sub (ws' := [(hC, .inr (1, [.int iC_nodes, .int iC_words, .int iC_chances, .int iC_unsures, .int iC_slips, .int iC_throneNode, .int iC_saidWorth, .int iC_unit, .ref rC_kind, .ref rC_parts, .ref rC_partNodes, .ref rC_weights, .ref rC_weightSums, .ref rC_toldWorths, .ref rC_steps, .ref rC_below, .ref rC_above, .ref rC_unsureWords, .ref rC_unsureWorths])), (rC_kind, .inl (kC_kind, 18, .inl f_48)), (rC_parts, .inl (kC_parts, 18, .inl f_49)), (rC_weightSums, .inl (kC_weightSums, 18, .inl f_50)), (rC_toldWorths, .inl (kC_toldWorths, 18, .inl f_51)), (rC_steps, .inl (kC_steps, 18, .inl f_52)), (rC_below, .inl (kC_below, 18, .inl f_57)), (rC_above, .inl (kC_above, 18, .inl f_58))]) [0, 1, 2, 3, 4, 5, 6, 7] rfl
      have hD9 := hD.sub (ws' := [(hC, .inr (1, [.int iC_nodes, .int iC_words, .int iC_chances, .int iC_unsures, .int iC_slips, .int iC_throneNode, .int iC_saidWorth, .int iC_unit, .ref rC_kind, .ref rC_parts, .ref rC_partNodes, .ref rC_weights, .ref rC_weightSums, .ref rC_toldWorths, .ref rC_steps, .ref rC_below, .ref rC_above, .ref rC_unsureWords, .ref rC_unsureWorths])), (rC_kind, .inl (kC_kind, 18, .inl f_48)), (rC_parts, .inl (kC_parts, 18, .inl f_49)), (rC_weightSums, .inl (kC_weightSums, 18, .inl f_50)), (rC_toldWorths, .inl (kC_toldWorths, 18, .inl f_51)), (rC_steps, .inl (kC_steps, 18, .inl f_52)), (rC_below, .inl (kC_below, 18, .inl f_57)), (rC_above, .inl (kC_above, 18, .inl f_58))]) [0, 1, 2, 3, 4, 5, 6, 7] (by decide) rfl
      have hK9 := hK.sub (tys' := [(kC_kind, .int), (kC_parts, .int), (kC_weightSums, .int), (kC_toldWorths, .int), (kC_steps, .int), (kC_below, .int), (kC_above, .int)]) [0, 1, 2, 3, 4, 5, 6] rfl
      exact W.vret hx hb hr (fun t ht hW => ⟨⟨0, rfl, trivial, ⟨f_48, f_49, f_50, f_51, f_52, f_57, f_58, a_f_49, Bw.to hP9 hD9 hK9 ht hW⟩⟩, hS.F ht⟩) hS.2.2 dX1_beginNode_92
set_option maxHeartbeats 4000000 in
set_option maxRecDepth 100000 in
theorem tX1_endNode (l : Launch) (dC : Nat → ClassId) (dI : Nat → Nat → Nat) (sz : Nat) (hC : Nat) (iC_nodes : Int32) (iC_words : Int32) (iC_chances : Int32) (iC_unsures : Int32) (iC_slips : Int32) (iC_throneNode : Int32) (iC_saidWorth : Int32) (iC_unit : Int32) (rC_kind : Nat) (fC_kind : Nat → Int32) (kC_kind : ClassId) (rC_parts : Nat) (rC_partNodes : Nat) (rC_weights : Nat) (rC_weightSums : Nat) (fC_weightSums : Nat → Int32) (kC_weightSums : ClassId) (rC_toldWorths : Nat) (fC_toldWorths : Nat → Int32) (kC_toldWorths : ClassId) (rC_steps : Nat) (rC_below : Nat) (rC_above : Nat) (rC_unsureWords : Nat) (rC_unsureWorths : Nat) (p0 : Int32) (b_iC_nodes : 0 ≤ iC_nodes.toInt ∧ iC_nodes.toInt ≤ 18) (b_iC_unsures : 0 ≤ iC_unsures.toInt ∧ iC_unsures.toInt ≤ 4)  : Met l yX1_endNode (Cond.code yX1_endNode cX1_endNode 2 none :: wG) ({ frames := 0, cells := 0, slots := 0, locals := 0 }) (va_Pc [.ref hC, .int p0] (Pw dC dI sz [(hC, .inr (1, [.int iC_nodes, .int iC_words, .int iC_chances, .int iC_unsures, .int iC_slips, .int iC_throneNode, .int iC_saidWorth, .int iC_unit, .ref rC_kind, .ref rC_parts, .ref rC_partNodes, .ref rC_weights, .ref rC_weightSums, .ref rC_toldWorths, .ref rC_steps, .ref rC_below, .ref rC_above, .ref rC_unsureWords, .ref rC_unsureWorths])), (rC_kind, .inl (kC_kind, 18, .inl fC_kind)), (rC_weightSums, .inl (kC_weightSums, 18, .inl fC_weightSums)), (rC_toldWorths, .inl (kC_toldWorths, 18, .inl fC_toldWorths))] [(kC_kind, .int), (kC_weightSums, .int), (kC_toldWorths, .int)])) (va_Qv (fun (_ : Nat) => True) (fun (_ : Nat) (t : State) => ∃ (niC_nodes : Int32) (niC_words : Int32) (niC_chances : Int32) (niC_unit : Int32) (nfC_toldWorths : Nat → Int32), (0 ≤ niC_nodes.toInt ∧ niC_nodes.toInt ≤ 18) ∧ Bw dC dI (va_A [(hC, .inr (1, [.int iC_nodes, .int iC_words, .int iC_chances, .int iC_unsures, .int iC_slips, .int iC_throneNode, .int iC_saidWorth, .int iC_unit, .ref rC_kind, .ref rC_parts, .ref rC_partNodes, .ref rC_weights, .ref rC_weightSums, .ref rC_toldWorths, .ref rC_steps, .ref rC_below, .ref rC_above, .ref rC_unsureWords, .ref rC_unsureWorths])), (rC_kind, .inl (kC_kind, 18, .inl fC_kind)), (rC_weightSums, .inl (kC_weightSums, 18, .inl fC_weightSums)), (rC_toldWorths, .inl (kC_toldWorths, 18, .inl fC_toldWorths))] sz) [(hC, .inr (1, [.int niC_nodes, .int niC_words, .int niC_chances, .int iC_unsures, .int iC_slips, .int iC_throneNode, .int iC_saidWorth, .int niC_unit, .ref rC_kind, .ref rC_parts, .ref rC_partNodes, .ref rC_weights, .ref rC_weightSums, .ref rC_toldWorths, .ref rC_steps, .ref rC_below, .ref rC_above, .ref rC_unsureWords, .ref rC_unsureWorths])), (rC_kind, .inl (kC_kind, 18, .inl fC_kind)), (rC_weightSums, .inl (kC_weightSums, 18, .inl fC_weightSums)), (rC_toldWorths, .inl (kC_toldWorths, 18, .inl nfC_toldWorths))] [(kC_kind, .int), (kC_weightSums, .int), (kC_toldWorths, .int)] t) (va_A [(hC, .inr (1, [.int iC_nodes, .int iC_words, .int iC_chances, .int iC_unsures, .int iC_slips, .int iC_throneNode, .int iC_saidWorth, .int iC_unit, .ref rC_kind, .ref rC_parts, .ref rC_partNodes, .ref rC_weights, .ref rC_weightSums, .ref rC_toldWorths, .ref rC_steps, .ref rC_below, .ref rC_above, .ref rC_unsureWords, .ref rC_unsureWorths])), (rC_kind, .inl (kC_kind, 18, .inl fC_kind)), (rC_weightSums, .inl (kC_weightSums, 18, .inl fC_weightSums)), (rC_toldWorths, .inl (kC_toldWorths, 18, .inl fC_toldWorths))] sz)) 0 0 (va_A [(hC, .inr (1, [.int iC_nodes, .int iC_words, .int iC_chances, .int iC_unsures, .int iC_slips, .int iC_throneNode, .int iC_saidWorth, .int iC_unit, .ref rC_kind, .ref rC_parts, .ref rC_partNodes, .ref rC_weights, .ref rC_weightSums, .ref rC_toldWorths, .ref rC_steps, .ref rC_below, .ref rC_above, .ref rC_unsureWords, .ref rC_unsureWorths])), (rC_kind, .inl (kC_kind, 18, .inl fC_kind)), (rC_weightSums, .inl (kC_weightSums, 18, .inl fC_weightSums)), (rC_toldWorths, .inl (kC_toldWorths, 18, .inl fC_toldWorths))] sz) := by
  refine Met.ofW (cc := cX1_endNode) (maxL := 2) (ret := none) (by decide) rfl ?_
  intro p e s m args below meth c s₁ B hml hv
  obtain ⟨rfl, hsz, hP, hK, hD0, hE⟩ := hv
  have hx := B.exec
  have hb := B.bytes
  have hr := B.returns
  have hts : ∀ w ∈ wG, w.before ([.ref hC, .int p0] : List Value).toArray s = true := fun w h => atoms_spec (ws := Cond.code yX1_endNode cX1_endNode 2 none :: wG) B.pre w (List.mem_cons_of_mem _ h)
  have hown : s.vm.findClass RX1 = some m.cls := findClass_of_methodNamed B.named
  have hlocks := B.notSynchronized
  subst hsz
  have hD := hD0.self (sz := s.heap.size)
  generalize hAe : va_A [(hC, .inr (1, [.int iC_nodes, .int iC_words, .int iC_chances, .int iC_unsures, .int iC_slips, .int iC_throneNode, .int iC_saidWorth, .int iC_unit, .ref rC_kind, .ref rC_parts, .ref rC_partNodes, .ref rC_weights, .ref rC_weightSums, .ref rC_toldWorths, .ref rC_steps, .ref rC_below, .ref rC_above, .ref rC_unsureWords, .ref rC_unsureWorths])), (rC_kind, .inl (kC_kind, 18, .inl fC_kind)), (rC_weightSums, .inl (kC_weightSums, 18, .inl fC_weightSums)), (rC_toldWorths, .inl (kC_toldWorths, 18, .inl fC_toldWorths))] s.heap.size = A at hD hE ⊢
  have hA : ∀ q : Nat, s.heap.size ≤ q → A q := fun q h => by rw [← hAe]; exact Or.inr h
  have hS : va_S A s.heap s.heap [] := va_S.rf
  have hl := lv_entry ([.ref hC, .int p0]) (n := 2) (Nat.le_of_ble_eq_true rfl)
  rw [lg_entry_eq]
  generalize (lg_sl ([.ref hC, .int p0]) ++ List.replicate (2 - (lg_sl ([.ref hC, .int p0])).length) Slot.unset).toArray = ls at hl ⊢
  have hl : lv_has ls 2 [(0, .ref hC), (1, .int p0)] := hl
  have rg_p0 := fb_rng p0
  refine lv_aload_n hx hb dX1_endNode_0 rfl (lv_at hl 0 rfl) ?_
  refine va_get (D := (dC, dI)) (ci := 1) (v := .int iC_nodes) (C := RX1) (T := TX1) (N := 19) hx hb hts inX1 hown hK hP 0 rfl rfl 0 (by decide) (hts _ wd_215) (fun _ h9 => h9) rfl dX1_endNode_1 ?_
  have rg_iC_nodes := fb_rng iC_nodes
  refine lv_bipush (v := 18) hx hb dX1_endNode_4 (by decide) ?_
  refine lv_icmp_ge (tgt := 92) hx hb dX1_endNode_6 (by decide) (fun c_78 => ?_) (fun c_78 => ?_)
  · skip
    have gc_78 := ti_le c_78 kc_18 rfl
    have hP9 := hP.sub (ws' := [(hC, .inr (1, [.int iC_nodes, .int iC_words, .int iC_chances, .int iC_unsures, .int iC_slips, .int iC_throneNode, .int iC_saidWorth, .int iC_unit, .ref rC_kind, .ref rC_parts, .ref rC_partNodes, .ref rC_weights, .ref rC_weightSums, .ref rC_toldWorths, .ref rC_steps, .ref rC_below, .ref rC_above, .ref rC_unsureWords, .ref rC_unsureWorths])), (rC_kind, .inl (kC_kind, 18, .inl fC_kind)), (rC_weightSums, .inl (kC_weightSums, 18, .inl fC_weightSums)), (rC_toldWorths, .inl (kC_toldWorths, 18, .inl fC_toldWorths))]) [0, 1, 2, 3] rfl
    have hD9 := hD.sub (ws' := [(hC, .inr (1, [.int iC_nodes, .int iC_words, .int iC_chances, .int iC_unsures, .int iC_slips, .int iC_throneNode, .int iC_saidWorth, .int iC_unit, .ref rC_kind, .ref rC_parts, .ref rC_partNodes, .ref rC_weights, .ref rC_weightSums, .ref rC_toldWorths, .ref rC_steps, .ref rC_below, .ref rC_above, .ref rC_unsureWords, .ref rC_unsureWorths])), (rC_kind, .inl (kC_kind, 18, .inl fC_kind)), (rC_weightSums, .inl (kC_weightSums, 18, .inl fC_weightSums)), (rC_toldWorths, .inl (kC_toldWorths, 18, .inl fC_toldWorths))]) [0, 1, 2, 3] (by decide) rfl
    have hK9 := hK.sub (tys' := [(kC_kind, .int), (kC_weightSums, .int), (kC_toldWorths, .int)]) [0, 1, 2] rfl
    exact W.vret hx hb hr (fun t ht hW => ⟨⟨0, rfl, trivial, ⟨iC_nodes, iC_words, iC_chances, iC_unit, fC_toldWorths, (by omega), Bw.to hP9 hD9 hK9 ht hW⟩⟩, hS.F ht⟩) hS.2.2 dX1_endNode_92
  · skip
    have gc_78 := ti_nle c_78 kc_18 rfl
    refine lv_aload_n hx hb dX1_endNode_9 rfl (lv_at hl 0 rfl) ?_
    refine va_get (D := (dC, dI)) (ci := 1) (v := .ref rC_toldWorths) (C := RX1) (T := TX1) (N := 19) hx hb hts inX1 hown hK hP 0 rfl rfl 13 (by decide) (hts _ wd_59) (fun _ h9 => h9) rfl dX1_endNode_10 ?_
    refine lv_aload_n hx hb dX1_endNode_13 rfl (lv_at hl 0 rfl) ?_
    refine va_get (D := (dC, dI)) (ci := 1) (v := .int iC_nodes) (C := RX1) (T := TX1) (N := 19) hx hb hts inX1 hown hK hP 0 rfl rfl 0 (by decide) (hts _ wd_215) (fun _ h9 => h9) rfl dX1_endNode_14 ?_
    refine lv_iload_n hx hb dX1_endNode_17 rfl (lv_at hl 1 rfl) ?_
    refine vz_iast hx hb hK hP hD hS 3 2 rfl rfl (ti_in rfl (by omega) (by omega)) dX1_endNode_18 (fun H locs f_79 hP hD hS => ?_)
    have hP : va_P (dC, dI) vwCl [(hC, .inr (1, [.int iC_nodes, .int iC_words, .int iC_chances, .int iC_unsures, .int iC_slips, .int iC_throneNode, .int iC_saidWorth, .int iC_unit, .ref rC_kind, .ref rC_parts, .ref rC_partNodes, .ref rC_weights, .ref rC_weightSums, .ref rC_toldWorths, .ref rC_steps, .ref rC_below, .ref rC_above, .ref rC_unsureWords, .ref rC_unsureWorths])), (rC_kind, .inl (kC_kind, 18, .inl fC_kind)), (rC_weightSums, .inl (kC_weightSums, 18, .inl fC_weightSums)), (rC_toldWorths, .inl (kC_toldWorths, 18, .inl f_79))] H := hP
    have hD : va_D A [(hC, .inr (1, [.int iC_nodes, .int iC_words, .int iC_chances, .int iC_unsures, .int iC_slips, .int iC_throneNode, .int iC_saidWorth, .int iC_unit, .ref rC_kind, .ref rC_parts, .ref rC_partNodes, .ref rC_weights, .ref rC_weightSums, .ref rC_toldWorths, .ref rC_steps, .ref rC_below, .ref rC_above, .ref rC_unsureWords, .ref rC_unsureWorths])), (rC_kind, .inl (kC_kind, 18, .inl fC_kind)), (rC_weightSums, .inl (kC_weightSums, 18, .inl fC_weightSums)), (rC_toldWorths, .inl (kC_toldWorths, 18, .inl f_79))] := hD
    refine lv_aload_n hx hb dX1_endNode_19 rfl (lv_at hl 0 rfl) ?_
    refine va_get (D := (dC, dI)) (ci := 1) (v := .ref rC_kind) (C := RX1) (T := TX1) (N := 19) hx hb hts inX1 hown hK hP 0 rfl rfl 8 (by decide) (hts _ wd_54) (fun _ h9 => h9) rfl dX1_endNode_20 ?_
    refine lv_aload_n hx hb dX1_endNode_23 rfl (lv_at hl 0 rfl) ?_
    refine va_get (D := (dC, dI)) (ci := 1) (v := .int iC_nodes) (C := RX1) (T := TX1) (N := 19) hx hb hts inX1 hown hK hP 0 rfl rfl 0 (by decide) (hts _ wd_215) (fun _ h9 => h9) rfl dX1_endNode_24 ?_
    refine va_iald hx hb hK hP 1 0 rfl rfl (ti_in rfl (by omega) (by omega)) dX1_endNode_27 ?_
    refine lv_topi (fun x_80 ex_80 => ?_)
    have rg_x_80 := fb_rng x_80
    refine lv_if_ne (tgt := 41) hx hb dX1_endNode_28 (by decide) (fun c_81 => ?_) (fun c_81 => ?_)
    · skip
      have gc_81 := ti_ne c_81 rfl kc_0
      refine lv_aload_n hx hb dX1_endNode_41 rfl (lv_at hl 0 rfl) ?_
      refine va_get (D := (dC, dI)) (ci := 1) (v := .ref rC_kind) (C := RX1) (T := TX1) (N := 19) hx hb hts inX1 hown hK hP 0 rfl rfl 8 (by decide) (hts _ wd_54) (fun _ h9 => h9) rfl dX1_endNode_42 ?_
      refine lv_aload_n hx hb dX1_endNode_45 rfl (lv_at hl 0 rfl) ?_
      refine va_get (D := (dC, dI)) (ci := 1) (v := .int iC_nodes) (C := RX1) (T := TX1) (N := 19) hx hb hts inX1 hown hK hP 0 rfl rfl 0 (by decide) (hts _ wd_215) (fun _ h9 => h9) rfl dX1_endNode_46 ?_
      refine va_iald hx hb hK hP 1 0 rfl rfl (ti_in rfl (by omega) (by omega)) dX1_endNode_49 ?_
      refine lv_topi (fun x_82 ex_82 => ?_)
      have rg_x_82 := fb_rng x_82
      refine lv_iconst (v := 3) hx hb dX1_endNode_50 (by decide) ?_
      refine lv_icmp_ne (tgt := 82) hx hb dX1_endNode_51 (by decide) (fun c_83 => ?_) (fun c_83 => ?_)
      · skip
        have gc_83 := ti_ne c_83 rfl kc_3
        refine lv_aload_n hx hb dX1_endNode_82 rfl (lv_at hl 0 rfl) ?_
        refine lv_dup hx hb dX1_endNode_83 rfl ?_
        refine va_get (D := (dC, dI)) (ci := 1) (v := .int iC_nodes) (C := RX1) (T := TX1) (N := 19) hx hb hts inX1 hown hK hP 0 rfl rfl 0 (by decide) (hts _ wd_215) (fun _ h9 => h9) rfl dX1_endNode_84 ?_
        refine lv_iconst (v := 1) hx hb dX1_endNode_87 (by decide) ?_
        refine lv_iadd hx hb dX1_endNode_88 ?_
        refine lv_topi (fun x_84 ex_84 => ?_)
        have vx_84 : x_84.toInt = iC_nodes.toInt + 1 := by have q := ti_add ex_84 rfl kc_1 (by omega) (by omega); omega
        refine va_put (D := (dC, dI)) (ci := 1) (v := .int x_84) (ty := .int) (C := RX1) (T := TX1) (N := 19) hx hb hts inX1 tyX1 tyX1_ok nmX1 hown hK hP hD hS 0 rfl rfl 0 (by decide) (hts _ wd_215) (fun _ h9 => h9) rfl (by decide +kernel) rfl rfl (Nat.le_of_ble_eq_true rfl) dX1_endNode_89 (fun H locs hP hD hS => ?_)
        have hP : va_P (dC, dI) vwCl [(hC, .inr (1, [.int x_84, .int iC_words, .int iC_chances, .int iC_unsures, .int iC_slips, .int iC_throneNode, .int iC_saidWorth, .int iC_unit, .ref rC_kind, .ref rC_parts, .ref rC_partNodes, .ref rC_weights, .ref rC_weightSums, .ref rC_toldWorths, .ref rC_steps, .ref rC_below, .ref rC_above, .ref rC_unsureWords, .ref rC_unsureWorths])), (rC_kind, .inl (kC_kind, 18, .inl fC_kind)), (rC_weightSums, .inl (kC_weightSums, 18, .inl fC_weightSums)), (rC_toldWorths, .inl (kC_toldWorths, 18, .inl f_79))] H := hP
        have hD : va_D A [(hC, .inr (1, [.int x_84, .int iC_words, .int iC_chances, .int iC_unsures, .int iC_slips, .int iC_throneNode, .int iC_saidWorth, .int iC_unit, .ref rC_kind, .ref rC_parts, .ref rC_partNodes, .ref rC_weights, .ref rC_weightSums, .ref rC_toldWorths, .ref rC_steps, .ref rC_below, .ref rC_above, .ref rC_unsureWords, .ref rC_unsureWorths])), (rC_kind, .inl (kC_kind, 18, .inl fC_kind)), (rC_weightSums, .inl (kC_weightSums, 18, .inl fC_weightSums)), (rC_toldWorths, .inl (kC_toldWorths, 18, .inl f_79))] := hD
        have hP9 := hP.sub (ws' := [(hC, .inr (1, [.int x_84, .int iC_words, .int iC_chances, .int iC_unsures, .int iC_slips, .int iC_throneNode, .int iC_saidWorth, .int iC_unit, .ref rC_kind, .ref rC_parts, .ref rC_partNodes, .ref rC_weights, .ref rC_weightSums, .ref rC_toldWorths, .ref rC_steps, .ref rC_below, .ref rC_above, .ref rC_unsureWords, .ref rC_unsureWorths])), (rC_kind, .inl (kC_kind, 18, .inl fC_kind)), (rC_weightSums, .inl (kC_weightSums, 18, .inl fC_weightSums)), (rC_toldWorths, .inl (kC_toldWorths, 18, .inl f_79))]) [0, 1, 2, 3] rfl
        have hD9 := hD.sub (ws' := [(hC, .inr (1, [.int x_84, .int iC_words, .int iC_chances, .int iC_unsures, .int iC_slips, .int iC_throneNode, .int iC_saidWorth, .int iC_unit, .ref rC_kind, .ref rC_parts, .ref rC_partNodes, .ref rC_weights, .ref rC_weightSums, .ref rC_toldWorths, .ref rC_steps, .ref rC_below, .ref rC_above, .ref rC_unsureWords, .ref rC_unsureWorths])), (rC_kind, .inl (kC_kind, 18, .inl fC_kind)), (rC_weightSums, .inl (kC_weightSums, 18, .inl fC_weightSums)), (rC_toldWorths, .inl (kC_toldWorths, 18, .inl f_79))]) [0, 1, 2, 3] (by decide) rfl
        have hK9 := hK.sub (tys' := [(kC_kind, .int), (kC_weightSums, .int), (kC_toldWorths, .int)]) [0, 1, 2] rfl
        exact W.vret hx hb hr (fun t ht hW => ⟨⟨0, rfl, trivial, ⟨x_84, iC_words, iC_chances, iC_unit, f_79, (by have q := vx_84; omega), Bw.to hP9 hD9 hK9 ht hW⟩⟩, hS.F ht⟩) hS.2.2 dX1_endNode_92
      · skip
        have gc_83 := ti_eq c_83 rfl kc_3
        refine lv_aload_n hx hb dX1_endNode_54 rfl (lv_at hl 0 rfl) ?_
        refine lv_dup hx hb dX1_endNode_55 rfl ?_
        refine va_get (D := (dC, dI)) (ci := 1) (v := .int iC_chances) (C := RX1) (T := TX1) (N := 19) hx hb hts inX1 hown hK hP 0 rfl rfl 2 (by decide) (hts _ wd_217) (fun _ h9 => h9) rfl dX1_endNode_56 ?_
        have rg_iC_chances := fb_rng iC_chances
        refine lv_iconst (v := 1) hx hb dX1_endNode_59 (by decide) ?_
        refine lv_iadd hx hb dX1_endNode_60 ?_
        refine lv_topi (fun x_85 ex_85 => ?_)
        have rg_x_85 := fb_rng x_85
        refine va_put (D := (dC, dI)) (ci := 1) (v := .int x_85) (ty := .int) (C := RX1) (T := TX1) (N := 19) hx hb hts inX1 tyX1 tyX1_ok nmX1 hown hK hP hD hS 0 rfl rfl 2 (by decide) (hts _ wd_217) (fun _ h9 => h9) rfl (by decide +kernel) rfl rfl (Nat.le_of_ble_eq_true rfl) dX1_endNode_61 (fun H locs hP hD hS => ?_)
        have hP : va_P (dC, dI) vwCl [(hC, .inr (1, [.int iC_nodes, .int iC_words, .int x_85, .int iC_unsures, .int iC_slips, .int iC_throneNode, .int iC_saidWorth, .int iC_unit, .ref rC_kind, .ref rC_parts, .ref rC_partNodes, .ref rC_weights, .ref rC_weightSums, .ref rC_toldWorths, .ref rC_steps, .ref rC_below, .ref rC_above, .ref rC_unsureWords, .ref rC_unsureWorths])), (rC_kind, .inl (kC_kind, 18, .inl fC_kind)), (rC_weightSums, .inl (kC_weightSums, 18, .inl fC_weightSums)), (rC_toldWorths, .inl (kC_toldWorths, 18, .inl f_79))] H := hP
        have hD : va_D A [(hC, .inr (1, [.int iC_nodes, .int iC_words, .int x_85, .int iC_unsures, .int iC_slips, .int iC_throneNode, .int iC_saidWorth, .int iC_unit, .ref rC_kind, .ref rC_parts, .ref rC_partNodes, .ref rC_weights, .ref rC_weightSums, .ref rC_toldWorths, .ref rC_steps, .ref rC_below, .ref rC_above, .ref rC_unsureWords, .ref rC_unsureWorths])), (rC_kind, .inl (kC_kind, 18, .inl fC_kind)), (rC_weightSums, .inl (kC_weightSums, 18, .inl fC_weightSums)), (rC_toldWorths, .inl (kC_toldWorths, 18, .inl f_79))] := hD
        refine lv_aload_n hx hb dX1_endNode_64 rfl (lv_at hl 0 rfl) ?_
        refine lv_dup hx hb dX1_endNode_65 rfl ?_
        refine va_get (D := (dC, dI)) (ci := 1) (v := .int iC_unit) (C := RX1) (T := TX1) (N := 19) hx hb hts inX1 hown hK hP 0 rfl rfl 7 (by decide) (hts _ wd_67) (fun _ h9 => h9) rfl dX1_endNode_66 ?_
        have rg_iC_unit := fb_rng iC_unit
        refine lv_aload_n hx hb dX1_endNode_69 rfl (lv_at hl 0 rfl) ?_
        refine va_get (D := (dC, dI)) (ci := 1) (v := .ref rC_weightSums) (C := RX1) (T := TX1) (N := 19) hx hb hts inX1 hown hK hP 0 rfl rfl 12 (by decide) (hts _ wd_58) (fun _ h9 => h9) rfl dX1_endNode_70 ?_
        refine lv_aload_n hx hb dX1_endNode_73 rfl (lv_at hl 0 rfl) ?_
        refine va_get (D := (dC, dI)) (ci := 1) (v := .int iC_nodes) (C := RX1) (T := TX1) (N := 19) hx hb hts inX1 hown hK hP 0 rfl rfl 0 (by decide) (hts _ wd_215) (fun _ h9 => h9) rfl dX1_endNode_74 ?_
        refine va_iald hx hb hK hP 2 1 rfl rfl (ti_in rfl (by omega) (by omega)) dX1_endNode_77 ?_
        refine lv_topi (fun x_86 ex_86 => ?_)
        have rg_x_86 := fb_rng x_86
        refine lv_imul hx hb dX1_endNode_78 ?_
        refine lv_topi (fun x_87 ex_87 => ?_)
        have rg_x_87 := fb_rng x_87
        refine va_put (D := (dC, dI)) (ci := 1) (v := .int x_87) (ty := .int) (C := RX1) (T := TX1) (N := 19) hx hb hts inX1 tyX1 tyX1_ok nmX1 hown hK hP hD hS 0 rfl rfl 7 (by decide) (hts _ wd_67) (fun _ h9 => h9) rfl (by decide +kernel) rfl rfl (Nat.le_of_ble_eq_true rfl) dX1_endNode_79 (fun H locs hP hD hS => ?_)
        have hP : va_P (dC, dI) vwCl [(hC, .inr (1, [.int iC_nodes, .int iC_words, .int x_85, .int iC_unsures, .int iC_slips, .int iC_throneNode, .int iC_saidWorth, .int x_87, .ref rC_kind, .ref rC_parts, .ref rC_partNodes, .ref rC_weights, .ref rC_weightSums, .ref rC_toldWorths, .ref rC_steps, .ref rC_below, .ref rC_above, .ref rC_unsureWords, .ref rC_unsureWorths])), (rC_kind, .inl (kC_kind, 18, .inl fC_kind)), (rC_weightSums, .inl (kC_weightSums, 18, .inl fC_weightSums)), (rC_toldWorths, .inl (kC_toldWorths, 18, .inl f_79))] H := hP
        have hD : va_D A [(hC, .inr (1, [.int iC_nodes, .int iC_words, .int x_85, .int iC_unsures, .int iC_slips, .int iC_throneNode, .int iC_saidWorth, .int x_87, .ref rC_kind, .ref rC_parts, .ref rC_partNodes, .ref rC_weights, .ref rC_weightSums, .ref rC_toldWorths, .ref rC_steps, .ref rC_below, .ref rC_above, .ref rC_unsureWords, .ref rC_unsureWorths])), (rC_kind, .inl (kC_kind, 18, .inl fC_kind)), (rC_weightSums, .inl (kC_weightSums, 18, .inl fC_weightSums)), (rC_toldWorths, .inl (kC_toldWorths, 18, .inl f_79))] := hD
        refine lv_aload_n hx hb dX1_endNode_82 rfl (lv_at hl 0 rfl) ?_
        refine lv_dup hx hb dX1_endNode_83 rfl ?_
        refine va_get (D := (dC, dI)) (ci := 1) (v := .int iC_nodes) (C := RX1) (T := TX1) (N := 19) hx hb hts inX1 hown hK hP 0 rfl rfl 0 (by decide) (hts _ wd_215) (fun _ h9 => h9) rfl dX1_endNode_84 ?_
        refine lv_iconst (v := 1) hx hb dX1_endNode_87 (by decide) ?_
        refine lv_iadd hx hb dX1_endNode_88 ?_
        refine lv_topi (fun x_88 ex_88 => ?_)
        have vx_88 : x_88.toInt = iC_nodes.toInt + 1 := by have q := ti_add ex_88 rfl kc_1 (by omega) (by omega); omega
        refine va_put (D := (dC, dI)) (ci := 1) (v := .int x_88) (ty := .int) (C := RX1) (T := TX1) (N := 19) hx hb hts inX1 tyX1 tyX1_ok nmX1 hown hK hP hD hS 0 rfl rfl 0 (by decide) (hts _ wd_215) (fun _ h9 => h9) rfl (by decide +kernel) rfl rfl (Nat.le_of_ble_eq_true rfl) dX1_endNode_89 (fun H locs hP hD hS => ?_)
        have hP : va_P (dC, dI) vwCl [(hC, .inr (1, [.int x_88, .int iC_words, .int x_85, .int iC_unsures, .int iC_slips, .int iC_throneNode, .int iC_saidWorth, .int x_87, .ref rC_kind, .ref rC_parts, .ref rC_partNodes, .ref rC_weights, .ref rC_weightSums, .ref rC_toldWorths, .ref rC_steps, .ref rC_below, .ref rC_above, .ref rC_unsureWords, .ref rC_unsureWorths])), (rC_kind, .inl (kC_kind, 18, .inl fC_kind)), (rC_weightSums, .inl (kC_weightSums, 18, .inl fC_weightSums)), (rC_toldWorths, .inl (kC_toldWorths, 18, .inl f_79))] H := hP
        have hD : va_D A [(hC, .inr (1, [.int x_88, .int iC_words, .int x_85, .int iC_unsures, .int iC_slips, .int iC_throneNode, .int iC_saidWorth, .int x_87, .ref rC_kind, .ref rC_parts, .ref rC_partNodes, .ref rC_weights, .ref rC_weightSums, .ref rC_toldWorths, .ref rC_steps, .ref rC_below, .ref rC_above, .ref rC_unsureWords, .ref rC_unsureWorths])), (rC_kind, .inl (kC_kind, 18, .inl fC_kind)), (rC_weightSums, .inl (kC_weightSums, 18, .inl fC_weightSums)), (rC_toldWorths, .inl (kC_toldWorths, 18, .inl f_79))] := hD
        have hP9 := hP.sub (ws' := [(hC, .inr (1, [.int x_88, .int iC_words, .int x_85, .int iC_unsures, .int iC_slips, .int iC_throneNode, .int iC_saidWorth, .int x_87, .ref rC_kind, .ref rC_parts, .ref rC_partNodes, .ref rC_weights, .ref rC_weightSums, .ref rC_toldWorths, .ref rC_steps, .ref rC_below, .ref rC_above, .ref rC_unsureWords, .ref rC_unsureWorths])), (rC_kind, .inl (kC_kind, 18, .inl fC_kind)), (rC_weightSums, .inl (kC_weightSums, 18, .inl fC_weightSums)), (rC_toldWorths, .inl (kC_toldWorths, 18, .inl f_79))]) [0, 1, 2, 3] rfl
        have hD9 := hD.sub (ws' := [(hC, .inr (1, [.int x_88, .int iC_words, .int x_85, .int iC_unsures, .int iC_slips, .int iC_throneNode, .int iC_saidWorth, .int x_87, .ref rC_kind, .ref rC_parts, .ref rC_partNodes, .ref rC_weights, .ref rC_weightSums, .ref rC_toldWorths, .ref rC_steps, .ref rC_below, .ref rC_above, .ref rC_unsureWords, .ref rC_unsureWorths])), (rC_kind, .inl (kC_kind, 18, .inl fC_kind)), (rC_weightSums, .inl (kC_weightSums, 18, .inl fC_weightSums)), (rC_toldWorths, .inl (kC_toldWorths, 18, .inl f_79))]) [0, 1, 2, 3] (by decide) rfl
        have hK9 := hK.sub (tys' := [(kC_kind, .int), (kC_weightSums, .int), (kC_toldWorths, .int)]) [0, 1, 2] rfl
        exact W.vret hx hb hr (fun t ht hW => ⟨⟨0, rfl, trivial, ⟨x_88, iC_words, x_85, x_87, f_79, (by have q := vx_88; omega), Bw.to hP9 hD9 hK9 ht hW⟩⟩, hS.F ht⟩) hS.2.2 dX1_endNode_92
    · skip
      have gc_81 := ti_eq c_81 rfl kc_0
      refine lv_aload_n hx hb dX1_endNode_31 rfl (lv_at hl 0 rfl) ?_
      refine lv_dup hx hb dX1_endNode_32 rfl ?_
      refine va_get (D := (dC, dI)) (ci := 1) (v := .int iC_words) (C := RX1) (T := TX1) (N := 19) hx hb hts inX1 hown hK hP 0 rfl rfl 1 (by decide) (hts _ wd_216) (fun _ h9 => h9) rfl dX1_endNode_33 ?_
      have rg_iC_words := fb_rng iC_words
      refine lv_iconst (v := 1) hx hb dX1_endNode_36 (by decide) ?_
      refine lv_iadd hx hb dX1_endNode_37 ?_
      refine lv_topi (fun x_89 ex_89 => ?_)
      have rg_x_89 := fb_rng x_89
      refine va_put (D := (dC, dI)) (ci := 1) (v := .int x_89) (ty := .int) (C := RX1) (T := TX1) (N := 19) hx hb hts inX1 tyX1 tyX1_ok nmX1 hown hK hP hD hS 0 rfl rfl 1 (by decide) (hts _ wd_216) (fun _ h9 => h9) rfl (by decide +kernel) rfl rfl (Nat.le_of_ble_eq_true rfl) dX1_endNode_38 (fun H locs hP hD hS => ?_)
      have hP : va_P (dC, dI) vwCl [(hC, .inr (1, [.int iC_nodes, .int x_89, .int iC_chances, .int iC_unsures, .int iC_slips, .int iC_throneNode, .int iC_saidWorth, .int iC_unit, .ref rC_kind, .ref rC_parts, .ref rC_partNodes, .ref rC_weights, .ref rC_weightSums, .ref rC_toldWorths, .ref rC_steps, .ref rC_below, .ref rC_above, .ref rC_unsureWords, .ref rC_unsureWorths])), (rC_kind, .inl (kC_kind, 18, .inl fC_kind)), (rC_weightSums, .inl (kC_weightSums, 18, .inl fC_weightSums)), (rC_toldWorths, .inl (kC_toldWorths, 18, .inl f_79))] H := hP
      have hD : va_D A [(hC, .inr (1, [.int iC_nodes, .int x_89, .int iC_chances, .int iC_unsures, .int iC_slips, .int iC_throneNode, .int iC_saidWorth, .int iC_unit, .ref rC_kind, .ref rC_parts, .ref rC_partNodes, .ref rC_weights, .ref rC_weightSums, .ref rC_toldWorths, .ref rC_steps, .ref rC_below, .ref rC_above, .ref rC_unsureWords, .ref rC_unsureWorths])), (rC_kind, .inl (kC_kind, 18, .inl fC_kind)), (rC_weightSums, .inl (kC_weightSums, 18, .inl fC_weightSums)), (rC_toldWorths, .inl (kC_toldWorths, 18, .inl f_79))] := hD
      refine lv_aload_n hx hb dX1_endNode_41 rfl (lv_at hl 0 rfl) ?_
      refine va_get (D := (dC, dI)) (ci := 1) (v := .ref rC_kind) (C := RX1) (T := TX1) (N := 19) hx hb hts inX1 hown hK hP 0 rfl rfl 8 (by decide) (hts _ wd_54) (fun _ h9 => h9) rfl dX1_endNode_42 ?_
      refine lv_aload_n hx hb dX1_endNode_45 rfl (lv_at hl 0 rfl) ?_
      refine va_get (D := (dC, dI)) (ci := 1) (v := .int iC_nodes) (C := RX1) (T := TX1) (N := 19) hx hb hts inX1 hown hK hP 0 rfl rfl 0 (by decide) (hts _ wd_215) (fun _ h9 => h9) rfl dX1_endNode_46 ?_
      refine va_iald hx hb hK hP 1 0 rfl rfl (ti_in rfl (by omega) (by omega)) dX1_endNode_49 ?_
      refine lv_topi (fun x_90 ex_90 => ?_)
      have rg_x_90 := fb_rng x_90
      refine lv_iconst (v := 3) hx hb dX1_endNode_50 (by decide) ?_
      refine lv_icmp_ne (tgt := 82) hx hb dX1_endNode_51 (by decide) (fun c_91 => ?_) (fun c_91 => ?_)
      · skip
        have gc_91 := ti_ne c_91 rfl kc_3
        refine lv_aload_n hx hb dX1_endNode_82 rfl (lv_at hl 0 rfl) ?_
        refine lv_dup hx hb dX1_endNode_83 rfl ?_
        refine va_get (D := (dC, dI)) (ci := 1) (v := .int iC_nodes) (C := RX1) (T := TX1) (N := 19) hx hb hts inX1 hown hK hP 0 rfl rfl 0 (by decide) (hts _ wd_215) (fun _ h9 => h9) rfl dX1_endNode_84 ?_
        refine lv_iconst (v := 1) hx hb dX1_endNode_87 (by decide) ?_
        refine lv_iadd hx hb dX1_endNode_88 ?_
        refine lv_topi (fun x_92 ex_92 => ?_)
        have vx_92 : x_92.toInt = iC_nodes.toInt + 1 := by have q := ti_add ex_92 rfl kc_1 (by omega) (by omega); omega
        refine va_put (D := (dC, dI)) (ci := 1) (v := .int x_92) (ty := .int) (C := RX1) (T := TX1) (N := 19) hx hb hts inX1 tyX1 tyX1_ok nmX1 hown hK hP hD hS 0 rfl rfl 0 (by decide) (hts _ wd_215) (fun _ h9 => h9) rfl (by decide +kernel) rfl rfl (Nat.le_of_ble_eq_true rfl) dX1_endNode_89 (fun H locs hP hD hS => ?_)
        have hP : va_P (dC, dI) vwCl [(hC, .inr (1, [.int x_92, .int x_89, .int iC_chances, .int iC_unsures, .int iC_slips, .int iC_throneNode, .int iC_saidWorth, .int iC_unit, .ref rC_kind, .ref rC_parts, .ref rC_partNodes, .ref rC_weights, .ref rC_weightSums, .ref rC_toldWorths, .ref rC_steps, .ref rC_below, .ref rC_above, .ref rC_unsureWords, .ref rC_unsureWorths])), (rC_kind, .inl (kC_kind, 18, .inl fC_kind)), (rC_weightSums, .inl (kC_weightSums, 18, .inl fC_weightSums)), (rC_toldWorths, .inl (kC_toldWorths, 18, .inl f_79))] H := hP
        have hD : va_D A [(hC, .inr (1, [.int x_92, .int x_89, .int iC_chances, .int iC_unsures, .int iC_slips, .int iC_throneNode, .int iC_saidWorth, .int iC_unit, .ref rC_kind, .ref rC_parts, .ref rC_partNodes, .ref rC_weights, .ref rC_weightSums, .ref rC_toldWorths, .ref rC_steps, .ref rC_below, .ref rC_above, .ref rC_unsureWords, .ref rC_unsureWorths])), (rC_kind, .inl (kC_kind, 18, .inl fC_kind)), (rC_weightSums, .inl (kC_weightSums, 18, .inl fC_weightSums)), (rC_toldWorths, .inl (kC_toldWorths, 18, .inl f_79))] := hD
        have hP9 := hP.sub (ws' := [(hC, .inr (1, [.int x_92, .int x_89, .int iC_chances, .int iC_unsures, .int iC_slips, .int iC_throneNode, .int iC_saidWorth, .int iC_unit, .ref rC_kind, .ref rC_parts, .ref rC_partNodes, .ref rC_weights, .ref rC_weightSums, .ref rC_toldWorths, .ref rC_steps, .ref rC_below, .ref rC_above, .ref rC_unsureWords, .ref rC_unsureWorths])), (rC_kind, .inl (kC_kind, 18, .inl fC_kind)), (rC_weightSums, .inl (kC_weightSums, 18, .inl fC_weightSums)), (rC_toldWorths, .inl (kC_toldWorths, 18, .inl f_79))]) [0, 1, 2, 3] rfl
        have hD9 := hD.sub (ws' := [(hC, .inr (1, [.int x_92, .int x_89, .int iC_chances, .int iC_unsures, .int iC_slips, .int iC_throneNode, .int iC_saidWorth, .int iC_unit, .ref rC_kind, .ref rC_parts, .ref rC_partNodes, .ref rC_weights, .ref rC_weightSums, .ref rC_toldWorths, .ref rC_steps, .ref rC_below, .ref rC_above, .ref rC_unsureWords, .ref rC_unsureWorths])), (rC_kind, .inl (kC_kind, 18, .inl fC_kind)), (rC_weightSums, .inl (kC_weightSums, 18, .inl fC_weightSums)), (rC_toldWorths, .inl (kC_toldWorths, 18, .inl f_79))]) [0, 1, 2, 3] (by decide) rfl
        have hK9 := hK.sub (tys' := [(kC_kind, .int), (kC_weightSums, .int), (kC_toldWorths, .int)]) [0, 1, 2] rfl
        exact W.vret hx hb hr (fun t ht hW => ⟨⟨0, rfl, trivial, ⟨x_92, x_89, iC_chances, iC_unit, f_79, (by have q := vx_92; omega), Bw.to hP9 hD9 hK9 ht hW⟩⟩, hS.F ht⟩) hS.2.2 dX1_endNode_92
      · skip
        have gc_91 := ti_eq c_91 rfl kc_3
        refine lv_aload_n hx hb dX1_endNode_54 rfl (lv_at hl 0 rfl) ?_
        refine lv_dup hx hb dX1_endNode_55 rfl ?_
        refine va_get (D := (dC, dI)) (ci := 1) (v := .int iC_chances) (C := RX1) (T := TX1) (N := 19) hx hb hts inX1 hown hK hP 0 rfl rfl 2 (by decide) (hts _ wd_217) (fun _ h9 => h9) rfl dX1_endNode_56 ?_
        have rg_iC_chances := fb_rng iC_chances
        refine lv_iconst (v := 1) hx hb dX1_endNode_59 (by decide) ?_
        refine lv_iadd hx hb dX1_endNode_60 ?_
        refine lv_topi (fun x_93 ex_93 => ?_)
        have rg_x_93 := fb_rng x_93
        refine va_put (D := (dC, dI)) (ci := 1) (v := .int x_93) (ty := .int) (C := RX1) (T := TX1) (N := 19) hx hb hts inX1 tyX1 tyX1_ok nmX1 hown hK hP hD hS 0 rfl rfl 2 (by decide) (hts _ wd_217) (fun _ h9 => h9) rfl (by decide +kernel) rfl rfl (Nat.le_of_ble_eq_true rfl) dX1_endNode_61 (fun H locs hP hD hS => ?_)
        have hP : va_P (dC, dI) vwCl [(hC, .inr (1, [.int iC_nodes, .int x_89, .int x_93, .int iC_unsures, .int iC_slips, .int iC_throneNode, .int iC_saidWorth, .int iC_unit, .ref rC_kind, .ref rC_parts, .ref rC_partNodes, .ref rC_weights, .ref rC_weightSums, .ref rC_toldWorths, .ref rC_steps, .ref rC_below, .ref rC_above, .ref rC_unsureWords, .ref rC_unsureWorths])), (rC_kind, .inl (kC_kind, 18, .inl fC_kind)), (rC_weightSums, .inl (kC_weightSums, 18, .inl fC_weightSums)), (rC_toldWorths, .inl (kC_toldWorths, 18, .inl f_79))] H := hP
        have hD : va_D A [(hC, .inr (1, [.int iC_nodes, .int x_89, .int x_93, .int iC_unsures, .int iC_slips, .int iC_throneNode, .int iC_saidWorth, .int iC_unit, .ref rC_kind, .ref rC_parts, .ref rC_partNodes, .ref rC_weights, .ref rC_weightSums, .ref rC_toldWorths, .ref rC_steps, .ref rC_below, .ref rC_above, .ref rC_unsureWords, .ref rC_unsureWorths])), (rC_kind, .inl (kC_kind, 18, .inl fC_kind)), (rC_weightSums, .inl (kC_weightSums, 18, .inl fC_weightSums)), (rC_toldWorths, .inl (kC_toldWorths, 18, .inl f_79))] := hD
        refine lv_aload_n hx hb dX1_endNode_64 rfl (lv_at hl 0 rfl) ?_
        refine lv_dup hx hb dX1_endNode_65 rfl ?_
        refine va_get (D := (dC, dI)) (ci := 1) (v := .int iC_unit) (C := RX1) (T := TX1) (N := 19) hx hb hts inX1 hown hK hP 0 rfl rfl 7 (by decide) (hts _ wd_67) (fun _ h9 => h9) rfl dX1_endNode_66 ?_
        have rg_iC_unit := fb_rng iC_unit
        refine lv_aload_n hx hb dX1_endNode_69 rfl (lv_at hl 0 rfl) ?_
        refine va_get (D := (dC, dI)) (ci := 1) (v := .ref rC_weightSums) (C := RX1) (T := TX1) (N := 19) hx hb hts inX1 hown hK hP 0 rfl rfl 12 (by decide) (hts _ wd_58) (fun _ h9 => h9) rfl dX1_endNode_70 ?_
        refine lv_aload_n hx hb dX1_endNode_73 rfl (lv_at hl 0 rfl) ?_
        refine va_get (D := (dC, dI)) (ci := 1) (v := .int iC_nodes) (C := RX1) (T := TX1) (N := 19) hx hb hts inX1 hown hK hP 0 rfl rfl 0 (by decide) (hts _ wd_215) (fun _ h9 => h9) rfl dX1_endNode_74 ?_
        refine va_iald hx hb hK hP 2 1 rfl rfl (ti_in rfl (by omega) (by omega)) dX1_endNode_77 ?_
        refine lv_topi (fun x_94 ex_94 => ?_)
        have rg_x_94 := fb_rng x_94
        refine lv_imul hx hb dX1_endNode_78 ?_
        refine lv_topi (fun x_95 ex_95 => ?_)
        have rg_x_95 := fb_rng x_95
        refine va_put (D := (dC, dI)) (ci := 1) (v := .int x_95) (ty := .int) (C := RX1) (T := TX1) (N := 19) hx hb hts inX1 tyX1 tyX1_ok nmX1 hown hK hP hD hS 0 rfl rfl 7 (by decide) (hts _ wd_67) (fun _ h9 => h9) rfl (by decide +kernel) rfl rfl (Nat.le_of_ble_eq_true rfl) dX1_endNode_79 (fun H locs hP hD hS => ?_)
        have hP : va_P (dC, dI) vwCl [(hC, .inr (1, [.int iC_nodes, .int x_89, .int x_93, .int iC_unsures, .int iC_slips, .int iC_throneNode, .int iC_saidWorth, .int x_95, .ref rC_kind, .ref rC_parts, .ref rC_partNodes, .ref rC_weights, .ref rC_weightSums, .ref rC_toldWorths, .ref rC_steps, .ref rC_below, .ref rC_above, .ref rC_unsureWords, .ref rC_unsureWorths])), (rC_kind, .inl (kC_kind, 18, .inl fC_kind)), (rC_weightSums, .inl (kC_weightSums, 18, .inl fC_weightSums)), (rC_toldWorths, .inl (kC_toldWorths, 18, .inl f_79))] H := hP
        have hD : va_D A [(hC, .inr (1, [.int iC_nodes, .int x_89, .int x_93, .int iC_unsures, .int iC_slips, .int iC_throneNode, .int iC_saidWorth, .int x_95, .ref rC_kind, .ref rC_parts, .ref rC_partNodes, .ref rC_weights, .ref rC_weightSums, .ref rC_toldWorths, .ref rC_steps, .ref rC_below, .ref rC_above, .ref rC_unsureWords, .ref rC_unsureWorths])), (rC_kind, .inl (kC_kind, 18, .inl fC_kind)), (rC_weightSums, .inl (kC_weightSums, 18, .inl fC_weightSums)), (rC_toldWorths, .inl (kC_toldWorths, 18, .inl f_79))] := hD
        refine lv_aload_n hx hb dX1_endNode_82 rfl (lv_at hl 0 rfl) ?_
        refine lv_dup hx hb dX1_endNode_83 rfl ?_
        refine va_get (D := (dC, dI)) (ci := 1) (v := .int iC_nodes) (C := RX1) (T := TX1) (N := 19) hx hb hts inX1 hown hK hP 0 rfl rfl 0 (by decide) (hts _ wd_215) (fun _ h9 => h9) rfl dX1_endNode_84 ?_
        refine lv_iconst (v := 1) hx hb dX1_endNode_87 (by decide) ?_
        refine lv_iadd hx hb dX1_endNode_88 ?_
        refine lv_topi (fun x_96 ex_96 => ?_)
        have vx_96 : x_96.toInt = iC_nodes.toInt + 1 := by have q := ti_add ex_96 rfl kc_1 (by omega) (by omega); omega
        refine va_put (D := (dC, dI)) (ci := 1) (v := .int x_96) (ty := .int) (C := RX1) (T := TX1) (N := 19) hx hb hts inX1 tyX1 tyX1_ok nmX1 hown hK hP hD hS 0 rfl rfl 0 (by decide) (hts _ wd_215) (fun _ h9 => h9) rfl (by decide +kernel) rfl rfl (Nat.le_of_ble_eq_true rfl) dX1_endNode_89 (fun H locs hP hD hS => ?_)
        have hP : va_P (dC, dI) vwCl [(hC, .inr (1, [.int x_96, .int x_89, .int x_93, .int iC_unsures, .int iC_slips, .int iC_throneNode, .int iC_saidWorth, .int x_95, .ref rC_kind, .ref rC_parts, .ref rC_partNodes, .ref rC_weights, .ref rC_weightSums, .ref rC_toldWorths, .ref rC_steps, .ref rC_below, .ref rC_above, .ref rC_unsureWords, .ref rC_unsureWorths])), (rC_kind, .inl (kC_kind, 18, .inl fC_kind)), (rC_weightSums, .inl (kC_weightSums, 18, .inl fC_weightSums)), (rC_toldWorths, .inl (kC_toldWorths, 18, .inl f_79))] H := hP
        have hD : va_D A [(hC, .inr (1, [.int x_96, .int x_89, .int x_93, .int iC_unsures, .int iC_slips, .int iC_throneNode, .int iC_saidWorth, .int x_95, .ref rC_kind, .ref rC_parts, .ref rC_partNodes, .ref rC_weights, .ref rC_weightSums, .ref rC_toldWorths, .ref rC_steps, .ref rC_below, .ref rC_above, .ref rC_unsureWords, .ref rC_unsureWorths])), (rC_kind, .inl (kC_kind, 18, .inl fC_kind)), (rC_weightSums, .inl (kC_weightSums, 18, .inl fC_weightSums)), (rC_toldWorths, .inl (kC_toldWorths, 18, .inl f_79))] := hD
        have hP9 := hP.sub (ws' := [(hC, .inr (1, [.int x_96, .int x_89, .int x_93, .int iC_unsures, .int iC_slips, .int iC_throneNode, .int iC_saidWorth, .int x_95, .ref rC_kind, .ref rC_parts, .ref rC_partNodes, .ref rC_weights, .ref rC_weightSums, .ref rC_toldWorths, .ref rC_steps, .ref rC_below, .ref rC_above, .ref rC_unsureWords, .ref rC_unsureWorths])), (rC_kind, .inl (kC_kind, 18, .inl fC_kind)), (rC_weightSums, .inl (kC_weightSums, 18, .inl fC_weightSums)), (rC_toldWorths, .inl (kC_toldWorths, 18, .inl f_79))]) [0, 1, 2, 3] rfl
        have hD9 := hD.sub (ws' := [(hC, .inr (1, [.int x_96, .int x_89, .int x_93, .int iC_unsures, .int iC_slips, .int iC_throneNode, .int iC_saidWorth, .int x_95, .ref rC_kind, .ref rC_parts, .ref rC_partNodes, .ref rC_weights, .ref rC_weightSums, .ref rC_toldWorths, .ref rC_steps, .ref rC_below, .ref rC_above, .ref rC_unsureWords, .ref rC_unsureWorths])), (rC_kind, .inl (kC_kind, 18, .inl fC_kind)), (rC_weightSums, .inl (kC_weightSums, 18, .inl fC_weightSums)), (rC_toldWorths, .inl (kC_toldWorths, 18, .inl f_79))]) [0, 1, 2, 3] (by decide) rfl
        have hK9 := hK.sub (tys' := [(kC_kind, .int), (kC_weightSums, .int), (kC_toldWorths, .int)]) [0, 1, 2] rfl
        exact W.vret hx hb hr (fun t ht hW => ⟨⟨0, rfl, trivial, ⟨x_96, x_89, x_93, x_95, f_79, (by have q := vx_96; omega), Bw.to hP9 hD9 hK9 ht hW⟩⟩, hS.F ht⟩) hS.2.2 dX1_endNode_92
set_option maxHeartbeats 4000000 in
set_option maxRecDepth 100000 in
theorem tX1_addUnsure (l : Launch) (dC : Nat → ClassId) (dI : Nat → Nat → Nat) (sz : Nat) (hC : Nat) (iC_nodes : Int32) (iC_words : Int32) (iC_chances : Int32) (iC_unsures : Int32) (iC_slips : Int32) (iC_throneNode : Int32) (iC_saidWorth : Int32) (iC_unit : Int32) (rC_kind : Nat) (rC_parts : Nat) (rC_partNodes : Nat) (rC_weights : Nat) (rC_weightSums : Nat) (rC_toldWorths : Nat) (rC_steps : Nat) (rC_below : Nat) (rC_above : Nat) (rC_unsureWords : Nat) (fC_unsureWords : Nat → Int32) (kC_unsureWords : ClassId) (rC_unsureWorths : Nat) (fC_unsureWorths : Nat → Int32) (kC_unsureWorths : ClassId) (p0 : Int32) (p1 : Int32) (b_iC_nodes : 0 ≤ iC_nodes.toInt ∧ iC_nodes.toInt ≤ 18) (b_iC_unsures : 0 ≤ iC_unsures.toInt ∧ iC_unsures.toInt ≤ 4) (a_fC_unsureWords : ∀ j : Nat, j < 4 → 0 ≤ (fC_unsureWords j).toInt ∧ (fC_unsureWords j).toInt ≤ 17) (hp0 : 0 ≤ p0.toInt ∧ p0.toInt ≤ 17) : Met l yX1_addUnsure (Cond.code yX1_addUnsure cX1_addUnsure 3 none :: wG) ({ frames := 0, cells := 0, slots := 0, locals := 0 }) (va_Pc [.ref hC, .int p0, .int p1] (Pw dC dI sz [(hC, .inr (1, [.int iC_nodes, .int iC_words, .int iC_chances, .int iC_unsures, .int iC_slips, .int iC_throneNode, .int iC_saidWorth, .int iC_unit, .ref rC_kind, .ref rC_parts, .ref rC_partNodes, .ref rC_weights, .ref rC_weightSums, .ref rC_toldWorths, .ref rC_steps, .ref rC_below, .ref rC_above, .ref rC_unsureWords, .ref rC_unsureWorths])), (rC_unsureWords, .inl (kC_unsureWords, 4, .inl fC_unsureWords)), (rC_unsureWorths, .inl (kC_unsureWorths, 4, .inl fC_unsureWorths))] [(kC_unsureWords, .int), (kC_unsureWorths, .int)])) (va_Qv (fun (_ : Nat) => True) (fun (_ : Nat) (t : State) => ∃ (niC_unsures : Int32) (nfC_unsureWords : Nat → Int32) (nfC_unsureWorths : Nat → Int32), (0 ≤ niC_unsures.toInt ∧ niC_unsures.toInt ≤ 4) ∧ (∀ j : Nat, j < 4 → 0 ≤ (nfC_unsureWords j).toInt ∧ (nfC_unsureWords j).toInt ≤ 17) ∧ Bw dC dI (va_A [(hC, .inr (1, [.int iC_nodes, .int iC_words, .int iC_chances, .int iC_unsures, .int iC_slips, .int iC_throneNode, .int iC_saidWorth, .int iC_unit, .ref rC_kind, .ref rC_parts, .ref rC_partNodes, .ref rC_weights, .ref rC_weightSums, .ref rC_toldWorths, .ref rC_steps, .ref rC_below, .ref rC_above, .ref rC_unsureWords, .ref rC_unsureWorths])), (rC_unsureWords, .inl (kC_unsureWords, 4, .inl fC_unsureWords)), (rC_unsureWorths, .inl (kC_unsureWorths, 4, .inl fC_unsureWorths))] sz) [(hC, .inr (1, [.int iC_nodes, .int iC_words, .int iC_chances, .int niC_unsures, .int iC_slips, .int iC_throneNode, .int iC_saidWorth, .int iC_unit, .ref rC_kind, .ref rC_parts, .ref rC_partNodes, .ref rC_weights, .ref rC_weightSums, .ref rC_toldWorths, .ref rC_steps, .ref rC_below, .ref rC_above, .ref rC_unsureWords, .ref rC_unsureWorths])), (rC_unsureWords, .inl (kC_unsureWords, 4, .inl nfC_unsureWords)), (rC_unsureWorths, .inl (kC_unsureWorths, 4, .inl nfC_unsureWorths))] [(kC_unsureWords, .int), (kC_unsureWorths, .int)] t) (va_A [(hC, .inr (1, [.int iC_nodes, .int iC_words, .int iC_chances, .int iC_unsures, .int iC_slips, .int iC_throneNode, .int iC_saidWorth, .int iC_unit, .ref rC_kind, .ref rC_parts, .ref rC_partNodes, .ref rC_weights, .ref rC_weightSums, .ref rC_toldWorths, .ref rC_steps, .ref rC_below, .ref rC_above, .ref rC_unsureWords, .ref rC_unsureWorths])), (rC_unsureWords, .inl (kC_unsureWords, 4, .inl fC_unsureWords)), (rC_unsureWorths, .inl (kC_unsureWorths, 4, .inl fC_unsureWorths))] sz)) 0 0 (va_A [(hC, .inr (1, [.int iC_nodes, .int iC_words, .int iC_chances, .int iC_unsures, .int iC_slips, .int iC_throneNode, .int iC_saidWorth, .int iC_unit, .ref rC_kind, .ref rC_parts, .ref rC_partNodes, .ref rC_weights, .ref rC_weightSums, .ref rC_toldWorths, .ref rC_steps, .ref rC_below, .ref rC_above, .ref rC_unsureWords, .ref rC_unsureWorths])), (rC_unsureWords, .inl (kC_unsureWords, 4, .inl fC_unsureWords)), (rC_unsureWorths, .inl (kC_unsureWorths, 4, .inl fC_unsureWorths))] sz) := by
  refine Met.ofW (cc := cX1_addUnsure) (maxL := 3) (ret := none) (by decide) rfl ?_
  intro p e s m args below meth c s₁ B hml hv
  obtain ⟨rfl, hsz, hP, hK, hD0, hE⟩ := hv
  have hx := B.exec
  have hb := B.bytes
  have hr := B.returns
  have hts : ∀ w ∈ wG, w.before ([.ref hC, .int p0, .int p1] : List Value).toArray s = true := fun w h => atoms_spec (ws := Cond.code yX1_addUnsure cX1_addUnsure 3 none :: wG) B.pre w (List.mem_cons_of_mem _ h)
  have hown : s.vm.findClass RX1 = some m.cls := findClass_of_methodNamed B.named
  have hlocks := B.notSynchronized
  subst hsz
  have hD := hD0.self (sz := s.heap.size)
  generalize hAe : va_A [(hC, .inr (1, [.int iC_nodes, .int iC_words, .int iC_chances, .int iC_unsures, .int iC_slips, .int iC_throneNode, .int iC_saidWorth, .int iC_unit, .ref rC_kind, .ref rC_parts, .ref rC_partNodes, .ref rC_weights, .ref rC_weightSums, .ref rC_toldWorths, .ref rC_steps, .ref rC_below, .ref rC_above, .ref rC_unsureWords, .ref rC_unsureWorths])), (rC_unsureWords, .inl (kC_unsureWords, 4, .inl fC_unsureWords)), (rC_unsureWorths, .inl (kC_unsureWorths, 4, .inl fC_unsureWorths))] s.heap.size = A at hD hE ⊢
  have hA : ∀ q : Nat, s.heap.size ≤ q → A q := fun q h => by rw [← hAe]; exact Or.inr h
  have hS : va_S A s.heap s.heap [] := va_S.rf
  have hl := lv_entry ([.ref hC, .int p0, .int p1]) (n := 3) (Nat.le_of_ble_eq_true rfl)
  rw [lg_entry_eq]
  generalize (lg_sl ([.ref hC, .int p0, .int p1]) ++ List.replicate (3 - (lg_sl ([.ref hC, .int p0, .int p1])).length) Slot.unset).toArray = ls at hl ⊢
  have hl : lv_has ls 3 [(0, .ref hC), (1, .int p0), (2, .int p1)] := hl
  have rg_p0 := fb_rng p0
  have rg_p1 := fb_rng p1
  refine lv_aload_n hx hb dX1_addUnsure_0 rfl (lv_at hl 0 rfl) ?_
  refine va_get (D := (dC, dI)) (ci := 1) (v := .int iC_unsures) (C := RX1) (T := TX1) (N := 19) hx hb hts inX1 hown hK hP 0 rfl rfl 3 (by decide) (hts _ wd_218) (fun _ h9 => h9) rfl dX1_addUnsure_1 ?_
  have rg_iC_unsures := fb_rng iC_unsures
  refine lv_iconst (v := 4) hx hb dX1_addUnsure_4 (by decide) ?_
  refine lv_icmp_ge (tgt := 38) hx hb dX1_addUnsure_5 (by decide) (fun c_101 => ?_) (fun c_101 => ?_)
  · skip
    have gc_101 := ti_le c_101 kc_4 rfl
    have hP9 := hP.sub (ws' := [(hC, .inr (1, [.int iC_nodes, .int iC_words, .int iC_chances, .int iC_unsures, .int iC_slips, .int iC_throneNode, .int iC_saidWorth, .int iC_unit, .ref rC_kind, .ref rC_parts, .ref rC_partNodes, .ref rC_weights, .ref rC_weightSums, .ref rC_toldWorths, .ref rC_steps, .ref rC_below, .ref rC_above, .ref rC_unsureWords, .ref rC_unsureWorths])), (rC_unsureWords, .inl (kC_unsureWords, 4, .inl fC_unsureWords)), (rC_unsureWorths, .inl (kC_unsureWorths, 4, .inl fC_unsureWorths))]) [0, 1, 2] rfl
    have hD9 := hD.sub (ws' := [(hC, .inr (1, [.int iC_nodes, .int iC_words, .int iC_chances, .int iC_unsures, .int iC_slips, .int iC_throneNode, .int iC_saidWorth, .int iC_unit, .ref rC_kind, .ref rC_parts, .ref rC_partNodes, .ref rC_weights, .ref rC_weightSums, .ref rC_toldWorths, .ref rC_steps, .ref rC_below, .ref rC_above, .ref rC_unsureWords, .ref rC_unsureWorths])), (rC_unsureWords, .inl (kC_unsureWords, 4, .inl fC_unsureWords)), (rC_unsureWorths, .inl (kC_unsureWorths, 4, .inl fC_unsureWorths))]) [0, 1, 2] (by decide) rfl
    have hK9 := hK.sub (tys' := [(kC_unsureWords, .int), (kC_unsureWorths, .int)]) [0, 1] rfl
    exact W.vret hx hb hr (fun t ht hW => ⟨⟨0, rfl, trivial, ⟨iC_unsures, fC_unsureWords, fC_unsureWorths, (by omega), a_fC_unsureWords, Bw.to hP9 hD9 hK9 ht hW⟩⟩, hS.F ht⟩) hS.2.2 dX1_addUnsure_38
  · skip
    have gc_101 := ti_nle c_101 kc_4 rfl
    refine lv_aload_n hx hb dX1_addUnsure_8 rfl (lv_at hl 0 rfl) ?_
    refine va_get (D := (dC, dI)) (ci := 1) (v := .ref rC_unsureWords) (C := RX1) (T := TX1) (N := 19) hx hb hts inX1 hown hK hP 0 rfl rfl 17 (by decide) (hts _ wd_63) (fun _ h9 => h9) rfl dX1_addUnsure_9 ?_
    refine lv_aload_n hx hb dX1_addUnsure_12 rfl (lv_at hl 0 rfl) ?_
    refine va_get (D := (dC, dI)) (ci := 1) (v := .int iC_unsures) (C := RX1) (T := TX1) (N := 19) hx hb hts inX1 hown hK hP 0 rfl rfl 3 (by decide) (hts _ wd_218) (fun _ h9 => h9) rfl dX1_addUnsure_13 ?_
    refine lv_iload_n hx hb dX1_addUnsure_16 rfl (lv_at hl 1 rfl) ?_
    refine vi_iast (lo := 0) (hi := 17) hx hb hK hP hD hS 1 0 rfl rfl (ti_in rfl (by omega) (by omega)) a_fC_unsureWords (by omega) dX1_addUnsure_17 (fun H locs f_102 a_f_102 hP hD hS => ?_)
    have hP : va_P (dC, dI) vwCl [(hC, .inr (1, [.int iC_nodes, .int iC_words, .int iC_chances, .int iC_unsures, .int iC_slips, .int iC_throneNode, .int iC_saidWorth, .int iC_unit, .ref rC_kind, .ref rC_parts, .ref rC_partNodes, .ref rC_weights, .ref rC_weightSums, .ref rC_toldWorths, .ref rC_steps, .ref rC_below, .ref rC_above, .ref rC_unsureWords, .ref rC_unsureWorths])), (rC_unsureWords, .inl (kC_unsureWords, 4, .inl f_102)), (rC_unsureWorths, .inl (kC_unsureWorths, 4, .inl fC_unsureWorths))] H := hP
    have hD : va_D A [(hC, .inr (1, [.int iC_nodes, .int iC_words, .int iC_chances, .int iC_unsures, .int iC_slips, .int iC_throneNode, .int iC_saidWorth, .int iC_unit, .ref rC_kind, .ref rC_parts, .ref rC_partNodes, .ref rC_weights, .ref rC_weightSums, .ref rC_toldWorths, .ref rC_steps, .ref rC_below, .ref rC_above, .ref rC_unsureWords, .ref rC_unsureWorths])), (rC_unsureWords, .inl (kC_unsureWords, 4, .inl f_102)), (rC_unsureWorths, .inl (kC_unsureWorths, 4, .inl fC_unsureWorths))] := hD
    refine lv_aload_n hx hb dX1_addUnsure_18 rfl (lv_at hl 0 rfl) ?_
    refine va_get (D := (dC, dI)) (ci := 1) (v := .ref rC_unsureWorths) (C := RX1) (T := TX1) (N := 19) hx hb hts inX1 hown hK hP 0 rfl rfl 18 (by decide) (hts _ wd_64) (fun _ h9 => h9) rfl dX1_addUnsure_19 ?_
    refine lv_aload_n hx hb dX1_addUnsure_22 rfl (lv_at hl 0 rfl) ?_
    refine va_get (D := (dC, dI)) (ci := 1) (v := .int iC_unsures) (C := RX1) (T := TX1) (N := 19) hx hb hts inX1 hown hK hP 0 rfl rfl 3 (by decide) (hts _ wd_218) (fun _ h9 => h9) rfl dX1_addUnsure_23 ?_
    refine lv_iload_n hx hb dX1_addUnsure_26 rfl (lv_at hl 2 rfl) ?_
    refine vz_iast hx hb hK hP hD hS 2 1 rfl rfl (ti_in rfl (by omega) (by omega)) dX1_addUnsure_27 (fun H locs f_103 hP hD hS => ?_)
    have hP : va_P (dC, dI) vwCl [(hC, .inr (1, [.int iC_nodes, .int iC_words, .int iC_chances, .int iC_unsures, .int iC_slips, .int iC_throneNode, .int iC_saidWorth, .int iC_unit, .ref rC_kind, .ref rC_parts, .ref rC_partNodes, .ref rC_weights, .ref rC_weightSums, .ref rC_toldWorths, .ref rC_steps, .ref rC_below, .ref rC_above, .ref rC_unsureWords, .ref rC_unsureWorths])), (rC_unsureWords, .inl (kC_unsureWords, 4, .inl f_102)), (rC_unsureWorths, .inl (kC_unsureWorths, 4, .inl f_103))] H := hP
    have hD : va_D A [(hC, .inr (1, [.int iC_nodes, .int iC_words, .int iC_chances, .int iC_unsures, .int iC_slips, .int iC_throneNode, .int iC_saidWorth, .int iC_unit, .ref rC_kind, .ref rC_parts, .ref rC_partNodes, .ref rC_weights, .ref rC_weightSums, .ref rC_toldWorths, .ref rC_steps, .ref rC_below, .ref rC_above, .ref rC_unsureWords, .ref rC_unsureWorths])), (rC_unsureWords, .inl (kC_unsureWords, 4, .inl f_102)), (rC_unsureWorths, .inl (kC_unsureWorths, 4, .inl f_103))] := hD
    refine lv_aload_n hx hb dX1_addUnsure_28 rfl (lv_at hl 0 rfl) ?_
    refine lv_dup hx hb dX1_addUnsure_29 rfl ?_
    refine va_get (D := (dC, dI)) (ci := 1) (v := .int iC_unsures) (C := RX1) (T := TX1) (N := 19) hx hb hts inX1 hown hK hP 0 rfl rfl 3 (by decide) (hts _ wd_218) (fun _ h9 => h9) rfl dX1_addUnsure_30 ?_
    refine lv_iconst (v := 1) hx hb dX1_addUnsure_33 (by decide) ?_
    refine lv_iadd hx hb dX1_addUnsure_34 ?_
    refine lv_topi (fun x_104 ex_104 => ?_)
    have vx_104 : x_104.toInt = iC_unsures.toInt + 1 := by have q := ti_add ex_104 rfl kc_1 (by omega) (by omega); omega
    refine va_put (D := (dC, dI)) (ci := 1) (v := .int x_104) (ty := .int) (C := RX1) (T := TX1) (N := 19) hx hb hts inX1 tyX1 tyX1_ok nmX1 hown hK hP hD hS 0 rfl rfl 3 (by decide) (hts _ wd_218) (fun _ h9 => h9) rfl (by decide +kernel) rfl rfl (Nat.le_of_ble_eq_true rfl) dX1_addUnsure_35 (fun H locs hP hD hS => ?_)
    have hP : va_P (dC, dI) vwCl [(hC, .inr (1, [.int iC_nodes, .int iC_words, .int iC_chances, .int x_104, .int iC_slips, .int iC_throneNode, .int iC_saidWorth, .int iC_unit, .ref rC_kind, .ref rC_parts, .ref rC_partNodes, .ref rC_weights, .ref rC_weightSums, .ref rC_toldWorths, .ref rC_steps, .ref rC_below, .ref rC_above, .ref rC_unsureWords, .ref rC_unsureWorths])), (rC_unsureWords, .inl (kC_unsureWords, 4, .inl f_102)), (rC_unsureWorths, .inl (kC_unsureWorths, 4, .inl f_103))] H := hP
    have hD : va_D A [(hC, .inr (1, [.int iC_nodes, .int iC_words, .int iC_chances, .int x_104, .int iC_slips, .int iC_throneNode, .int iC_saidWorth, .int iC_unit, .ref rC_kind, .ref rC_parts, .ref rC_partNodes, .ref rC_weights, .ref rC_weightSums, .ref rC_toldWorths, .ref rC_steps, .ref rC_below, .ref rC_above, .ref rC_unsureWords, .ref rC_unsureWorths])), (rC_unsureWords, .inl (kC_unsureWords, 4, .inl f_102)), (rC_unsureWorths, .inl (kC_unsureWorths, 4, .inl f_103))] := hD
    have hP9 := hP.sub (ws' := [(hC, .inr (1, [.int iC_nodes, .int iC_words, .int iC_chances, .int x_104, .int iC_slips, .int iC_throneNode, .int iC_saidWorth, .int iC_unit, .ref rC_kind, .ref rC_parts, .ref rC_partNodes, .ref rC_weights, .ref rC_weightSums, .ref rC_toldWorths, .ref rC_steps, .ref rC_below, .ref rC_above, .ref rC_unsureWords, .ref rC_unsureWorths])), (rC_unsureWords, .inl (kC_unsureWords, 4, .inl f_102)), (rC_unsureWorths, .inl (kC_unsureWorths, 4, .inl f_103))]) [0, 1, 2] rfl
    have hD9 := hD.sub (ws' := [(hC, .inr (1, [.int iC_nodes, .int iC_words, .int iC_chances, .int x_104, .int iC_slips, .int iC_throneNode, .int iC_saidWorth, .int iC_unit, .ref rC_kind, .ref rC_parts, .ref rC_partNodes, .ref rC_weights, .ref rC_weightSums, .ref rC_toldWorths, .ref rC_steps, .ref rC_below, .ref rC_above, .ref rC_unsureWords, .ref rC_unsureWorths])), (rC_unsureWords, .inl (kC_unsureWords, 4, .inl f_102)), (rC_unsureWorths, .inl (kC_unsureWorths, 4, .inl f_103))]) [0, 1, 2] (by decide) rfl
    have hK9 := hK.sub (tys' := [(kC_unsureWords, .int), (kC_unsureWorths, .int)]) [0, 1] rfl
    exact W.vret hx hb hr (fun t ht hW => ⟨⟨0, rfl, trivial, ⟨x_104, f_102, f_103, (by have q := vx_104; omega), a_f_102, Bw.to hP9 hD9 hK9 ht hW⟩⟩, hS.F ht⟩) hS.2.2 dX1_addUnsure_38
set_option maxHeartbeats 4000000 in
set_option maxRecDepth 100000 in
theorem tX1_unsureSets (l : Launch) (dC : Nat → ClassId) (dI : Nat → Nat → Nat) (sz : Nat) (hC : Nat) (iC_nodes : Int32) (iC_words : Int32) (iC_chances : Int32) (iC_unsures : Int32) (iC_slips : Int32) (iC_throneNode : Int32) (iC_saidWorth : Int32) (iC_unit : Int32) (rC_kind : Nat) (rC_parts : Nat) (rC_partNodes : Nat) (rC_weights : Nat) (rC_weightSums : Nat) (rC_toldWorths : Nat) (rC_steps : Nat) (rC_below : Nat) (rC_above : Nat) (rC_unsureWords : Nat) (rC_unsureWorths : Nat) (b_iC_nodes : 0 ≤ iC_nodes.toInt ∧ iC_nodes.toInt ≤ 18) (b_iC_unsures : 0 ≤ iC_unsures.toInt ∧ iC_unsures.toInt ≤ 4)  : Met l yX1_unsureSets (Cond.code yX1_unsureSets cX1_unsureSets 1 (some .int) :: wG) ({ frames := 0, cells := 0, slots := 0, locals := 0 }) (va_Pc [.ref hC] (Pw dC dI sz [(hC, .inr (1, [.int iC_nodes, .int iC_words, .int iC_chances, .int iC_unsures, .int iC_slips, .int iC_throneNode, .int iC_saidWorth, .int iC_unit, .ref rC_kind, .ref rC_parts, .ref rC_partNodes, .ref rC_weights, .ref rC_weightSums, .ref rC_toldWorths, .ref rC_steps, .ref rC_below, .ref rC_above, .ref rC_unsureWords, .ref rC_unsureWorths]))] [])) (va_Qi (fun (r : Int32) (_ : Nat) => True ∧ True) (fun (_ : Nat) (t : State) => Bw dC dI (va_A [(hC, .inr (1, [.int iC_nodes, .int iC_words, .int iC_chances, .int iC_unsures, .int iC_slips, .int iC_throneNode, .int iC_saidWorth, .int iC_unit, .ref rC_kind, .ref rC_parts, .ref rC_partNodes, .ref rC_weights, .ref rC_weightSums, .ref rC_toldWorths, .ref rC_steps, .ref rC_below, .ref rC_above, .ref rC_unsureWords, .ref rC_unsureWorths]))] sz) [(hC, .inr (1, [.int iC_nodes, .int iC_words, .int iC_chances, .int iC_unsures, .int iC_slips, .int iC_throneNode, .int iC_saidWorth, .int iC_unit, .ref rC_kind, .ref rC_parts, .ref rC_partNodes, .ref rC_weights, .ref rC_weightSums, .ref rC_toldWorths, .ref rC_steps, .ref rC_below, .ref rC_above, .ref rC_unsureWords, .ref rC_unsureWorths]))] [] t) (va_A [(hC, .inr (1, [.int iC_nodes, .int iC_words, .int iC_chances, .int iC_unsures, .int iC_slips, .int iC_throneNode, .int iC_saidWorth, .int iC_unit, .ref rC_kind, .ref rC_parts, .ref rC_partNodes, .ref rC_weights, .ref rC_weightSums, .ref rC_toldWorths, .ref rC_steps, .ref rC_below, .ref rC_above, .ref rC_unsureWords, .ref rC_unsureWorths]))] sz)) 0 0 (va_A [(hC, .inr (1, [.int iC_nodes, .int iC_words, .int iC_chances, .int iC_unsures, .int iC_slips, .int iC_throneNode, .int iC_saidWorth, .int iC_unit, .ref rC_kind, .ref rC_parts, .ref rC_partNodes, .ref rC_weights, .ref rC_weightSums, .ref rC_toldWorths, .ref rC_steps, .ref rC_below, .ref rC_above, .ref rC_unsureWords, .ref rC_unsureWorths]))] sz) := by
  refine Met.ofW (cc := cX1_unsureSets) (maxL := 1) (ret := (some .int)) (by decide) rfl ?_
  intro p e s m args below meth c s₁ B hml hv
  obtain ⟨rfl, hsz, hP, hK, hD0, hE⟩ := hv
  have hx := B.exec
  have hb := B.bytes
  have hr := B.returns
  have hts : ∀ w ∈ wG, w.before ([.ref hC] : List Value).toArray s = true := fun w h => atoms_spec (ws := Cond.code yX1_unsureSets cX1_unsureSets 1 (some .int) :: wG) B.pre w (List.mem_cons_of_mem _ h)
  have hown : s.vm.findClass RX1 = some m.cls := findClass_of_methodNamed B.named
  have hlocks := B.notSynchronized
  subst hsz
  have hD := hD0.self (sz := s.heap.size)
  generalize hAe : va_A [(hC, .inr (1, [.int iC_nodes, .int iC_words, .int iC_chances, .int iC_unsures, .int iC_slips, .int iC_throneNode, .int iC_saidWorth, .int iC_unit, .ref rC_kind, .ref rC_parts, .ref rC_partNodes, .ref rC_weights, .ref rC_weightSums, .ref rC_toldWorths, .ref rC_steps, .ref rC_below, .ref rC_above, .ref rC_unsureWords, .ref rC_unsureWorths]))] s.heap.size = A at hD hE ⊢
  have hA : ∀ q : Nat, s.heap.size ≤ q → A q := fun q h => by rw [← hAe]; exact Or.inr h
  have hS : va_S A s.heap s.heap [] := va_S.rf
  have hl := lv_entry ([.ref hC]) (n := 1) (Nat.le_of_ble_eq_true rfl)
  rw [lg_entry_eq]
  generalize (lg_sl ([.ref hC]) ++ List.replicate (1 - (lg_sl ([.ref hC])).length) Slot.unset).toArray = ls at hl ⊢
  have hl : lv_has ls 1 [(0, .ref hC)] := hl
  refine lv_iconst (v := 1) hx hb dX1_unsureSets_0 (by decide) ?_
  refine lv_aload_n hx hb dX1_unsureSets_1 rfl (lv_at hl 0 rfl) ?_
  refine va_get (D := (dC, dI)) (ci := 1) (v := .int iC_unsures) (C := RX1) (T := TX1) (N := 19) hx hb hts inX1 hown hK hP 0 rfl rfl 3 (by decide) (hts _ wd_218) (fun _ h9 => h9) rfl dX1_unsureSets_2 ?_
  have rg_iC_unsures := fb_rng iC_unsures
  refine lv_ishl hx hb dX1_unsureSets_5 ?_
  refine lv_topi (fun x_106 ex_106 => ?_)
  have rg_x_106 := fb_rng x_106
  have hP9 := hP.sub (ws' := [(hC, .inr (1, [.int iC_nodes, .int iC_words, .int iC_chances, .int iC_unsures, .int iC_slips, .int iC_throneNode, .int iC_saidWorth, .int iC_unit, .ref rC_kind, .ref rC_parts, .ref rC_partNodes, .ref rC_weights, .ref rC_weightSums, .ref rC_toldWorths, .ref rC_steps, .ref rC_below, .ref rC_above, .ref rC_unsureWords, .ref rC_unsureWorths]))]) [0] rfl
  have hD9 := hD.sub (ws' := [(hC, .inr (1, [.int iC_nodes, .int iC_words, .int iC_chances, .int iC_unsures, .int iC_slips, .int iC_throneNode, .int iC_saidWorth, .int iC_unit, .ref rC_kind, .ref rC_parts, .ref rC_partNodes, .ref rC_weights, .ref rC_weightSums, .ref rC_toldWorths, .ref rC_steps, .ref rC_below, .ref rC_above, .ref rC_unsureWords, .ref rC_unsureWorths]))]) [0] (by decide) rfl
  have hK9 := hK.sub (tys' := []) [] rfl
  exact W.iret hx hb hr (fun t ht hW => ⟨⟨_, 0, rfl, ⟨trivial, trivial⟩, Bw.to hP9 hD9 hK9 ht hW⟩, hS.F ht⟩) hS.2.2 dX1_unsureSets_6
set_option maxHeartbeats 4000000 in
set_option maxRecDepth 100000 in
theorem tX1_placeOfPart (l : Launch) (dC : Nat → ClassId) (dI : Nat → Nat → Nat) (sz : Nat) (hC : Nat) (iC_nodes : Int32) (iC_words : Int32) (iC_chances : Int32) (iC_unsures : Int32) (iC_slips : Int32) (iC_throneNode : Int32) (iC_saidWorth : Int32) (iC_unit : Int32) (rC_kind : Nat) (rC_parts : Nat) (fC_parts : Nat → Int32) (kC_parts : ClassId) (rC_partNodes : Nat) (fC_partNodes : Nat → Int32) (kC_partNodes : ClassId) (rC_weights : Nat) (rC_weightSums : Nat) (rC_toldWorths : Nat) (rC_steps : Nat) (rC_below : Nat) (rC_above : Nat) (rC_unsureWords : Nat) (rC_unsureWorths : Nat) (p0 : Int32) (p1 : Int32) (b_iC_nodes : 0 ≤ iC_nodes.toInt ∧ iC_nodes.toInt ≤ 18) (b_iC_unsures : 0 ≤ iC_unsures.toInt ∧ iC_unsures.toInt ≤ 4) (a_fC_parts : ∀ j : Nat, j < 18 → 0 ≤ (fC_parts j).toInt ∧ (fC_parts j).toInt ≤ 4) (a_fC_partNodes : ∀ j : Nat, j < 72 → 0 ≤ (fC_partNodes j).toInt ∧ (fC_partNodes j).toInt ≤ 17)  : Met l yX1_placeOfPart (Cond.code yX1_placeOfPart cX1_placeOfPart 4 (some .int) :: wG) ({ frames := 0, cells := 0, slots := 0, locals := 0 }) (va_Pc [.ref hC, .int p0, .int p1] (Pw dC dI sz [(hC, .inr (1, [.int iC_nodes, .int iC_words, .int iC_chances, .int iC_unsures, .int iC_slips, .int iC_throneNode, .int iC_saidWorth, .int iC_unit, .ref rC_kind, .ref rC_parts, .ref rC_partNodes, .ref rC_weights, .ref rC_weightSums, .ref rC_toldWorths, .ref rC_steps, .ref rC_below, .ref rC_above, .ref rC_unsureWords, .ref rC_unsureWorths])), (rC_parts, .inl (kC_parts, 18, .inl fC_parts)), (rC_partNodes, .inl (kC_partNodes, 72, .inl fC_partNodes))] [(kC_parts, .int), (kC_partNodes, .int)])) (va_Qi (fun (r : Int32) (_ : Nat) => True ∧ True) (fun (_ : Nat) (t : State) => Bw dC dI (va_A [(hC, .inr (1, [.int iC_nodes, .int iC_words, .int iC_chances, .int iC_unsures, .int iC_slips, .int iC_throneNode, .int iC_saidWorth, .int iC_unit, .ref rC_kind, .ref rC_parts, .ref rC_partNodes, .ref rC_weights, .ref rC_weightSums, .ref rC_toldWorths, .ref rC_steps, .ref rC_below, .ref rC_above, .ref rC_unsureWords, .ref rC_unsureWorths])), (rC_parts, .inl (kC_parts, 18, .inl fC_parts)), (rC_partNodes, .inl (kC_partNodes, 72, .inl fC_partNodes))] sz) [(hC, .inr (1, [.int iC_nodes, .int iC_words, .int iC_chances, .int iC_unsures, .int iC_slips, .int iC_throneNode, .int iC_saidWorth, .int iC_unit, .ref rC_kind, .ref rC_parts, .ref rC_partNodes, .ref rC_weights, .ref rC_weightSums, .ref rC_toldWorths, .ref rC_steps, .ref rC_below, .ref rC_above, .ref rC_unsureWords, .ref rC_unsureWorths])), (rC_parts, .inl (kC_parts, 18, .inl fC_parts)), (rC_partNodes, .inl (kC_partNodes, 72, .inl fC_partNodes))] [(kC_parts, .int), (kC_partNodes, .int)] t) (va_A [(hC, .inr (1, [.int iC_nodes, .int iC_words, .int iC_chances, .int iC_unsures, .int iC_slips, .int iC_throneNode, .int iC_saidWorth, .int iC_unit, .ref rC_kind, .ref rC_parts, .ref rC_partNodes, .ref rC_weights, .ref rC_weightSums, .ref rC_toldWorths, .ref rC_steps, .ref rC_below, .ref rC_above, .ref rC_unsureWords, .ref rC_unsureWorths])), (rC_parts, .inl (kC_parts, 18, .inl fC_parts)), (rC_partNodes, .inl (kC_partNodes, 72, .inl fC_partNodes))] sz)) 0 0 (va_A [(hC, .inr (1, [.int iC_nodes, .int iC_words, .int iC_chances, .int iC_unsures, .int iC_slips, .int iC_throneNode, .int iC_saidWorth, .int iC_unit, .ref rC_kind, .ref rC_parts, .ref rC_partNodes, .ref rC_weights, .ref rC_weightSums, .ref rC_toldWorths, .ref rC_steps, .ref rC_below, .ref rC_above, .ref rC_unsureWords, .ref rC_unsureWorths])), (rC_parts, .inl (kC_parts, 18, .inl fC_parts)), (rC_partNodes, .inl (kC_partNodes, 72, .inl fC_partNodes))] sz) := by
  refine Met.ofW (cc := cX1_placeOfPart) (maxL := 4) (ret := (some .int)) (by decide) rfl ?_
  intro p e s m args below meth c s₁ B hml hv
  obtain ⟨rfl, hsz, hP, hK, hD0, hE⟩ := hv
  have hx := B.exec
  have hb := B.bytes
  have hr := B.returns
  have hts : ∀ w ∈ wG, w.before ([.ref hC, .int p0, .int p1] : List Value).toArray s = true := fun w h => atoms_spec (ws := Cond.code yX1_placeOfPart cX1_placeOfPart 4 (some .int) :: wG) B.pre w (List.mem_cons_of_mem _ h)
  have hown : s.vm.findClass RX1 = some m.cls := findClass_of_methodNamed B.named
  have hlocks := B.notSynchronized
  subst hsz
  have hD := hD0.self (sz := s.heap.size)
  generalize hAe : va_A [(hC, .inr (1, [.int iC_nodes, .int iC_words, .int iC_chances, .int iC_unsures, .int iC_slips, .int iC_throneNode, .int iC_saidWorth, .int iC_unit, .ref rC_kind, .ref rC_parts, .ref rC_partNodes, .ref rC_weights, .ref rC_weightSums, .ref rC_toldWorths, .ref rC_steps, .ref rC_below, .ref rC_above, .ref rC_unsureWords, .ref rC_unsureWorths])), (rC_parts, .inl (kC_parts, 18, .inl fC_parts)), (rC_partNodes, .inl (kC_partNodes, 72, .inl fC_partNodes))] s.heap.size = A at hD hE ⊢
  have hA : ∀ q : Nat, s.heap.size ≤ q → A q := fun q h => by rw [← hAe]; exact Or.inr h
  have hS : va_S A s.heap s.heap [] := va_S.rf
  have hl := lv_entry ([.ref hC, .int p0, .int p1]) (n := 4) (Nat.le_of_ble_eq_true rfl)
  rw [lg_entry_eq]
  generalize (lg_sl ([.ref hC, .int p0, .int p1]) ++ List.replicate (4 - (lg_sl ([.ref hC, .int p0, .int p1])).length) Slot.unset).toArray = ls at hl ⊢
  have hl : lv_has ls 4 [(0, .ref hC), (1, .int p0), (2, .int p1)] := hl
  have rg_p0 := fb_rng p0
  have rg_p1 := fb_rng p1
  refine lv_iload_n hx hb dX1_placeOfPart_0 rfl (lv_at hl 1 rfl) ?_
  refine lv_if_lt (tgt := 10) hx hb dX1_placeOfPart_1 (by decide) (fun c_118 => ?_) (fun c_118 => ?_)
  · skip
    have gc_118 := ti_lt c_118 rfl kc_0
    refine lv_iconst (v := (-1)) hx hb dX1_placeOfPart_10 (by decide) ?_
    have hP9 := hP.sub (ws' := [(hC, .inr (1, [.int iC_nodes, .int iC_words, .int iC_chances, .int iC_unsures, .int iC_slips, .int iC_throneNode, .int iC_saidWorth, .int iC_unit, .ref rC_kind, .ref rC_parts, .ref rC_partNodes, .ref rC_weights, .ref rC_weightSums, .ref rC_toldWorths, .ref rC_steps, .ref rC_below, .ref rC_above, .ref rC_unsureWords, .ref rC_unsureWorths])), (rC_parts, .inl (kC_parts, 18, .inl fC_parts)), (rC_partNodes, .inl (kC_partNodes, 72, .inl fC_partNodes))]) [0, 1, 2] rfl
    have hD9 := hD.sub (ws' := [(hC, .inr (1, [.int iC_nodes, .int iC_words, .int iC_chances, .int iC_unsures, .int iC_slips, .int iC_throneNode, .int iC_saidWorth, .int iC_unit, .ref rC_kind, .ref rC_parts, .ref rC_partNodes, .ref rC_weights, .ref rC_weightSums, .ref rC_toldWorths, .ref rC_steps, .ref rC_below, .ref rC_above, .ref rC_unsureWords, .ref rC_unsureWorths])), (rC_parts, .inl (kC_parts, 18, .inl fC_parts)), (rC_partNodes, .inl (kC_partNodes, 72, .inl fC_partNodes))]) [0, 1, 2] (by decide) rfl
    have hK9 := hK.sub (tys' := [(kC_parts, .int), (kC_partNodes, .int)]) [0, 1] rfl
    exact W.iret hx hb hr (fun t ht hW => ⟨⟨_, 0, rfl, ⟨trivial, trivial⟩, Bw.to hP9 hD9 hK9 ht hW⟩, hS.F ht⟩) hS.2.2 dX1_placeOfPart_11
  · skip
    have gc_118 := ti_nlt c_118 rfl kc_0
    refine lv_iload_n hx hb dX1_placeOfPart_4 rfl (lv_at hl 1 rfl) ?_
    refine lv_bipush (v := 18) hx hb dX1_placeOfPart_5 (by decide) ?_
    refine lv_icmp_lt (tgt := 12) hx hb dX1_placeOfPart_7 (by decide) (fun c_119 => ?_) (fun c_119 => ?_)
    · skip
      have gc_119 := ti_lt c_119 rfl kc_18
      refine lv_iconst (v := 0) hx hb dX1_placeOfPart_12 (by decide) ?_
      refine lv_istore_n (lv' := [(3, .int 0), (0, .ref hC), (1, .int p0), (2, .int p1)]) hx hb dX1_placeOfPart_13 rfl hl (by decide) rfl (fun ls hl => ?_)
      have hl := lv_sub hl (l' := [(3, .int 0), (0, .ref hC), (1, .int p0), (2, .int p1)]) [0, 1, 2, 3] rfl
      have key : ∀ (n_121 : Nat) (z_120 : Int32) (H : Heap) (locs : List Loc) (ls : Array Slot), (0 ≤ z_120.toInt ∧ z_120.toInt ≤ 4) → (4 - z_120.toInt).toNat < n_121 → va_P (dC, dI) vwCl [(hC, .inr (1, [.int iC_nodes, .int iC_words, .int iC_chances, .int iC_unsures, .int iC_slips, .int iC_throneNode, .int iC_saidWorth, .int iC_unit, .ref rC_kind, .ref rC_parts, .ref rC_partNodes, .ref rC_weights, .ref rC_weightSums, .ref rC_toldWorths, .ref rC_steps, .ref rC_below, .ref rC_above, .ref rC_unsureWords, .ref rC_unsureWorths])), (rC_parts, .inl (kC_parts, 18, .inl fC_parts)), (rC_partNodes, .inl (kC_partNodes, 72, .inl fC_partNodes))] H → va_D A [(hC, .inr (1, [.int iC_nodes, .int iC_words, .int iC_chances, .int iC_unsures, .int iC_slips, .int iC_throneNode, .int iC_saidWorth, .int iC_unit, .ref rC_kind, .ref rC_parts, .ref rC_partNodes, .ref rC_weights, .ref rC_weightSums, .ref rC_toldWorths, .ref rC_steps, .ref rC_below, .ref rC_above, .ref rC_unsureWords, .ref rC_unsureWorths])), (rC_parts, .inl (kC_parts, 18, .inl fC_parts)), (rC_partNodes, .inl (kC_partNodes, 72, .inl fC_partNodes))] → va_S A s.heap H locs → lv_has ls 4 [(3, .int z_120), (0, .ref hC), (1, .int p0), (2, .int p1)] → W p l e (headSpec (Cond.code yX1_placeOfPart cX1_placeOfPart 4 (some .int) :: wG) ({ frames := 0, cells := 0, slots := 0, locals := 0 })).room s m ([.ref hC, .int p0, .int p1] : List Value).toArray below meth c H locs 0 0 (MQ below (va_Qi (fun (r : Int32) (_ : Nat) => True ∧ True) (fun (_ : Nat) (t : State) => Bw dC dI A [(hC, .inr (1, [.int iC_nodes, .int iC_words, .int iC_chances, .int iC_unsures, .int iC_slips, .int iC_throneNode, .int iC_saidWorth, .int iC_unit, .ref rC_kind, .ref rC_parts, .ref rC_partNodes, .ref rC_weights, .ref rC_weightSums, .ref rC_toldWorths, .ref rC_steps, .ref rC_below, .ref rC_above, .ref rC_unsureWords, .ref rC_unsureWorths])), (rC_parts, .inl (kC_parts, 18, .inl fC_parts)), (rC_partNodes, .inl (kC_partNodes, 72, .inl fC_partNodes))] [(kC_parts, .int), (kC_partNodes, .int)] t) A) ([.ref hC, .int p0, .int p1] : List Value).toArray s 0 0 A) (F0 m 14 ls []) := by
        intro n_121
        induction n_121 with
        | zero => intro z_120 H locs ls hi0_n_121 hm; exact absurd hm (by omega)
        | succ n_121 ih =>
          intro z_120 H locs ls hi0_n_121 hm hP hD hS hl
          have rg_z_120 := fb_rng z_120
          refine lv_iload_n hx hb dX1_placeOfPart_14 rfl (lv_at hl 0 rfl) ?_
          refine lv_aload_n hx hb dX1_placeOfPart_15 rfl (lv_at hl 1 rfl) ?_
          refine va_get (D := (dC, dI)) (ci := 1) (v := .ref rC_parts) (C := RX1) (T := TX1) (N := 19) hx hb hts inX1 hown hK hP 0 rfl rfl 9 (by decide) (hts _ wd_55) (fun _ h9 => h9) rfl dX1_placeOfPart_16 ?_
          refine lv_iload_n hx hb dX1_placeOfPart_19 rfl (lv_at hl 2 rfl) ?_
          refine va_iald hx hb hK hP 1 0 rfl rfl (ti_in rfl (by omega) (by omega)) dX1_placeOfPart_20 ?_
          refine lv_topi (fun x_122 ex_122 => ?_)
          have rg_x_122 := fb_rng x_122
          have ux_122 := a_fC_parts _ (by have q := ti_cl (x := p0) rfl (by omega); omega : p0.toNatClampNeg < 18)
          rw [show fC_parts p0.toNatClampNeg = x_122 from ex_122.symm] at ux_122
          refine lv_icmp_ge (tgt := 46) hx hb dX1_placeOfPart_21 (by decide) (fun c_123 => ?_) (fun c_123 => ?_)
          · skip
            have gc_123 := ti_le c_123 rfl rfl
            refine lv_iconst (v := (-1)) hx hb dX1_placeOfPart_46 (by decide) ?_
            have hP9 := hP.sub (ws' := [(hC, .inr (1, [.int iC_nodes, .int iC_words, .int iC_chances, .int iC_unsures, .int iC_slips, .int iC_throneNode, .int iC_saidWorth, .int iC_unit, .ref rC_kind, .ref rC_parts, .ref rC_partNodes, .ref rC_weights, .ref rC_weightSums, .ref rC_toldWorths, .ref rC_steps, .ref rC_below, .ref rC_above, .ref rC_unsureWords, .ref rC_unsureWorths])), (rC_parts, .inl (kC_parts, 18, .inl fC_parts)), (rC_partNodes, .inl (kC_partNodes, 72, .inl fC_partNodes))]) [0, 1, 2] rfl
            have hD9 := hD.sub (ws' := [(hC, .inr (1, [.int iC_nodes, .int iC_words, .int iC_chances, .int iC_unsures, .int iC_slips, .int iC_throneNode, .int iC_saidWorth, .int iC_unit, .ref rC_kind, .ref rC_parts, .ref rC_partNodes, .ref rC_weights, .ref rC_weightSums, .ref rC_toldWorths, .ref rC_steps, .ref rC_below, .ref rC_above, .ref rC_unsureWords, .ref rC_unsureWorths])), (rC_parts, .inl (kC_parts, 18, .inl fC_parts)), (rC_partNodes, .inl (kC_partNodes, 72, .inl fC_partNodes))]) [0, 1, 2] (by decide) rfl
            have hK9 := hK.sub (tys' := [(kC_parts, .int), (kC_partNodes, .int)]) [0, 1] rfl
            exact W.iret hx hb hr (fun t ht hW => ⟨⟨_, 0, rfl, ⟨trivial, trivial⟩, Bw.to hP9 hD9 hK9 ht hW⟩, hS.F ht⟩) hS.2.2 dX1_placeOfPart_47
          · skip
            have gc_123 := ti_nle c_123 rfl rfl
            refine lv_aload_n hx hb dX1_placeOfPart_24 rfl (lv_at hl 1 rfl) ?_
            refine va_get (D := (dC, dI)) (ci := 1) (v := .ref rC_partNodes) (C := RX1) (T := TX1) (N := 19) hx hb hts inX1 hown hK hP 0 rfl rfl 10 (by decide) (hts _ wd_56) (fun _ h9 => h9) rfl dX1_placeOfPart_25 ?_
            refine lv_iload_n hx hb dX1_placeOfPart_28 rfl (lv_at hl 2 rfl) ?_
            refine lv_iconst (v := 4) hx hb dX1_placeOfPart_29 (by decide) ?_
            refine lv_imul hx hb dX1_placeOfPart_30 ?_
            refine lv_topi (fun x_124 ex_124 => ?_)
            have vx_124 : x_124.toInt = 4 * p0.toInt := by have q := ti_mul ex_124 rfl kc_4 (by omega) (by omega); omega
            refine lv_iload_n hx hb dX1_placeOfPart_31 rfl (lv_at hl 0 rfl) ?_
            refine lv_iadd hx hb dX1_placeOfPart_32 ?_
            refine lv_topi (fun x_125 ex_125 => ?_)
            have vx_125 : x_125.toInt = 4 * p0.toInt + z_120.toInt := by have q := ti_add ex_125 vx_124 rfl (by omega) (by omega); omega
            refine va_iald hx hb hK hP 2 1 rfl rfl (ti_in vx_125 (by omega) (by omega)) dX1_placeOfPart_33 ?_
            refine lv_topi (fun x_126 ex_126 => ?_)
            have rg_x_126 := fb_rng x_126
            have ux_126 := a_fC_partNodes _ (by have q := ti_cl (x := x_125) vx_125 (by omega); omega : x_125.toNatClampNeg < 72)
            rw [show fC_partNodes x_125.toNatClampNeg = x_126 from ex_126.symm] at ux_126
            refine lv_iload_n hx hb dX1_placeOfPart_34 rfl (lv_at hl 3 rfl) ?_
            refine lv_icmp_ne (tgt := 40) hx hb dX1_placeOfPart_35 (by decide) (fun c_127 => ?_) (fun c_127 => ?_)
            · skip
              have gc_127 := ti_ne c_127 rfl rfl
              obtain ⟨x_128, ex_128⟩ : ∃ z : Int32, z = z_120 + Int32.ofInt 1 := ⟨_, rfl⟩
              have vx_128 : x_128.toInt = z_120.toInt + 1 := by have q := ti_add (y := 1) ex_128 rfl kc_1 (by omega) (by omega); omega
              refine lv_iinc (v := x_128) (lv' := [(3, .int x_128), (0, .ref hC), (1, .int p0), (2, .int p1)]) hx hb dX1_placeOfPart_40 hl (k := 0) rfl ex_128.symm (by decide) rfl (fun ls hl => ?_)
              refine lv_goto (tgt := 14) hx hb dX1_placeOfPart_43 (by decide) ?_
              exact ih x_128 _ _ _  (by first | omega | decide) (by omega) (hP.sub [0, 1, 2] rfl) (hD.sub [0, 1, 2] (by decide) rfl) hS (lv_sub hl [0, 1, 2, 3] rfl)
            · skip
              have gc_127 := ti_eq c_127 rfl rfl
              refine lv_iload_n hx hb dX1_placeOfPart_38 rfl (lv_at hl 0 rfl) ?_
              have hP9 := hP.sub (ws' := [(hC, .inr (1, [.int iC_nodes, .int iC_words, .int iC_chances, .int iC_unsures, .int iC_slips, .int iC_throneNode, .int iC_saidWorth, .int iC_unit, .ref rC_kind, .ref rC_parts, .ref rC_partNodes, .ref rC_weights, .ref rC_weightSums, .ref rC_toldWorths, .ref rC_steps, .ref rC_below, .ref rC_above, .ref rC_unsureWords, .ref rC_unsureWorths])), (rC_parts, .inl (kC_parts, 18, .inl fC_parts)), (rC_partNodes, .inl (kC_partNodes, 72, .inl fC_partNodes))]) [0, 1, 2] rfl
              have hD9 := hD.sub (ws' := [(hC, .inr (1, [.int iC_nodes, .int iC_words, .int iC_chances, .int iC_unsures, .int iC_slips, .int iC_throneNode, .int iC_saidWorth, .int iC_unit, .ref rC_kind, .ref rC_parts, .ref rC_partNodes, .ref rC_weights, .ref rC_weightSums, .ref rC_toldWorths, .ref rC_steps, .ref rC_below, .ref rC_above, .ref rC_unsureWords, .ref rC_unsureWorths])), (rC_parts, .inl (kC_parts, 18, .inl fC_parts)), (rC_partNodes, .inl (kC_partNodes, 72, .inl fC_partNodes))]) [0, 1, 2] (by decide) rfl
              have hK9 := hK.sub (tys' := [(kC_parts, .int), (kC_partNodes, .int)]) [0, 1] rfl
              exact W.iret hx hb hr (fun t ht hW => ⟨⟨_, 0, rfl, ⟨trivial, trivial⟩, Bw.to hP9 hD9 hK9 ht hW⟩, hS.F ht⟩) hS.2.2 dX1_placeOfPart_39
      exact key ((4 - (0 : Int32).toInt).toNat + 1) 0 _ _ _  (by first | omega | decide) (by omega) hP hD hS hl
    · skip
      have gc_119 := ti_nlt c_119 rfl kc_18
      refine lv_iconst (v := (-1)) hx hb dX1_placeOfPart_10 (by decide) ?_
      have hP9 := hP.sub (ws' := [(hC, .inr (1, [.int iC_nodes, .int iC_words, .int iC_chances, .int iC_unsures, .int iC_slips, .int iC_throneNode, .int iC_saidWorth, .int iC_unit, .ref rC_kind, .ref rC_parts, .ref rC_partNodes, .ref rC_weights, .ref rC_weightSums, .ref rC_toldWorths, .ref rC_steps, .ref rC_below, .ref rC_above, .ref rC_unsureWords, .ref rC_unsureWorths])), (rC_parts, .inl (kC_parts, 18, .inl fC_parts)), (rC_partNodes, .inl (kC_partNodes, 72, .inl fC_partNodes))]) [0, 1, 2] rfl
      have hD9 := hD.sub (ws' := [(hC, .inr (1, [.int iC_nodes, .int iC_words, .int iC_chances, .int iC_unsures, .int iC_slips, .int iC_throneNode, .int iC_saidWorth, .int iC_unit, .ref rC_kind, .ref rC_parts, .ref rC_partNodes, .ref rC_weights, .ref rC_weightSums, .ref rC_toldWorths, .ref rC_steps, .ref rC_below, .ref rC_above, .ref rC_unsureWords, .ref rC_unsureWorths])), (rC_parts, .inl (kC_parts, 18, .inl fC_parts)), (rC_partNodes, .inl (kC_partNodes, 72, .inl fC_partNodes))]) [0, 1, 2] (by decide) rfl
      have hK9 := hK.sub (tys' := [(kC_parts, .int), (kC_partNodes, .int)]) [0, 1] rfl
      exact W.iret hx hb hr (fun t ht hW => ⟨⟨_, 0, rfl, ⟨trivial, trivial⟩, Bw.to hP9 hD9 hK9 ht hW⟩, hS.F ht⟩) hS.2.2 dX1_placeOfPart_11
set_option maxHeartbeats 4000000 in
set_option maxRecDepth 100000 in
theorem tX1_isUnsure (l : Launch) (dC : Nat → ClassId) (dI : Nat → Nat → Nat) (sz : Nat) (hC : Nat) (iC_nodes : Int32) (iC_words : Int32) (iC_chances : Int32) (iC_unsures : Int32) (iC_slips : Int32) (iC_throneNode : Int32) (iC_saidWorth : Int32) (iC_unit : Int32) (rC_kind : Nat) (rC_parts : Nat) (rC_partNodes : Nat) (rC_weights : Nat) (rC_weightSums : Nat) (rC_toldWorths : Nat) (rC_steps : Nat) (rC_below : Nat) (rC_above : Nat) (rC_unsureWords : Nat) (fC_unsureWords : Nat → Int32) (kC_unsureWords : ClassId) (rC_unsureWorths : Nat) (p0 : Int32) (b_iC_nodes : 0 ≤ iC_nodes.toInt ∧ iC_nodes.toInt ≤ 18) (b_iC_unsures : 0 ≤ iC_unsures.toInt ∧ iC_unsures.toInt ≤ 4) (a_fC_unsureWords : ∀ j : Nat, j < 4 → 0 ≤ (fC_unsureWords j).toInt ∧ (fC_unsureWords j).toInt ≤ 17)  : Met l yX1_isUnsure (Cond.code yX1_isUnsure cX1_isUnsure 3 (some .boolean) :: wG) ({ frames := 0, cells := 0, slots := 0, locals := 0 }) (va_Pc [.ref hC, .int p0] (Pw dC dI sz [(hC, .inr (1, [.int iC_nodes, .int iC_words, .int iC_chances, .int iC_unsures, .int iC_slips, .int iC_throneNode, .int iC_saidWorth, .int iC_unit, .ref rC_kind, .ref rC_parts, .ref rC_partNodes, .ref rC_weights, .ref rC_weightSums, .ref rC_toldWorths, .ref rC_steps, .ref rC_below, .ref rC_above, .ref rC_unsureWords, .ref rC_unsureWorths])), (rC_unsureWords, .inl (kC_unsureWords, 4, .inl fC_unsureWords))] [(kC_unsureWords, .int)])) (va_Qi (fun (r : Int32) (_ : Nat) => (r = 0 ∨ r = 1) ∧ True) (fun (_ : Nat) (t : State) => Bw dC dI (va_A [(hC, .inr (1, [.int iC_nodes, .int iC_words, .int iC_chances, .int iC_unsures, .int iC_slips, .int iC_throneNode, .int iC_saidWorth, .int iC_unit, .ref rC_kind, .ref rC_parts, .ref rC_partNodes, .ref rC_weights, .ref rC_weightSums, .ref rC_toldWorths, .ref rC_steps, .ref rC_below, .ref rC_above, .ref rC_unsureWords, .ref rC_unsureWorths])), (rC_unsureWords, .inl (kC_unsureWords, 4, .inl fC_unsureWords))] sz) [(hC, .inr (1, [.int iC_nodes, .int iC_words, .int iC_chances, .int iC_unsures, .int iC_slips, .int iC_throneNode, .int iC_saidWorth, .int iC_unit, .ref rC_kind, .ref rC_parts, .ref rC_partNodes, .ref rC_weights, .ref rC_weightSums, .ref rC_toldWorths, .ref rC_steps, .ref rC_below, .ref rC_above, .ref rC_unsureWords, .ref rC_unsureWorths])), (rC_unsureWords, .inl (kC_unsureWords, 4, .inl fC_unsureWords))] [(kC_unsureWords, .int)] t) (va_A [(hC, .inr (1, [.int iC_nodes, .int iC_words, .int iC_chances, .int iC_unsures, .int iC_slips, .int iC_throneNode, .int iC_saidWorth, .int iC_unit, .ref rC_kind, .ref rC_parts, .ref rC_partNodes, .ref rC_weights, .ref rC_weightSums, .ref rC_toldWorths, .ref rC_steps, .ref rC_below, .ref rC_above, .ref rC_unsureWords, .ref rC_unsureWorths])), (rC_unsureWords, .inl (kC_unsureWords, 4, .inl fC_unsureWords))] sz)) 0 0 (va_A [(hC, .inr (1, [.int iC_nodes, .int iC_words, .int iC_chances, .int iC_unsures, .int iC_slips, .int iC_throneNode, .int iC_saidWorth, .int iC_unit, .ref rC_kind, .ref rC_parts, .ref rC_partNodes, .ref rC_weights, .ref rC_weightSums, .ref rC_toldWorths, .ref rC_steps, .ref rC_below, .ref rC_above, .ref rC_unsureWords, .ref rC_unsureWorths])), (rC_unsureWords, .inl (kC_unsureWords, 4, .inl fC_unsureWords))] sz) := by
  refine Met.ofW (cc := cX1_isUnsure) (maxL := 3) (ret := (some .boolean)) (by decide) rfl ?_
  intro p e s m args below meth c s₁ B hml hv
  obtain ⟨rfl, hsz, hP, hK, hD0, hE⟩ := hv
  have hx := B.exec
  have hb := B.bytes
  have hr := B.returns
  have hts : ∀ w ∈ wG, w.before ([.ref hC, .int p0] : List Value).toArray s = true := fun w h => atoms_spec (ws := Cond.code yX1_isUnsure cX1_isUnsure 3 (some .boolean) :: wG) B.pre w (List.mem_cons_of_mem _ h)
  have hown : s.vm.findClass RX1 = some m.cls := findClass_of_methodNamed B.named
  have hlocks := B.notSynchronized
  subst hsz
  have hD := hD0.self (sz := s.heap.size)
  generalize hAe : va_A [(hC, .inr (1, [.int iC_nodes, .int iC_words, .int iC_chances, .int iC_unsures, .int iC_slips, .int iC_throneNode, .int iC_saidWorth, .int iC_unit, .ref rC_kind, .ref rC_parts, .ref rC_partNodes, .ref rC_weights, .ref rC_weightSums, .ref rC_toldWorths, .ref rC_steps, .ref rC_below, .ref rC_above, .ref rC_unsureWords, .ref rC_unsureWorths])), (rC_unsureWords, .inl (kC_unsureWords, 4, .inl fC_unsureWords))] s.heap.size = A at hD hE ⊢
  have hA : ∀ q : Nat, s.heap.size ≤ q → A q := fun q h => by rw [← hAe]; exact Or.inr h
  have hS : va_S A s.heap s.heap [] := va_S.rf
  have hl := lv_entry ([.ref hC, .int p0]) (n := 3) (Nat.le_of_ble_eq_true rfl)
  rw [lg_entry_eq]
  generalize (lg_sl ([.ref hC, .int p0]) ++ List.replicate (3 - (lg_sl ([.ref hC, .int p0])).length) Slot.unset).toArray = ls at hl ⊢
  have hl : lv_has ls 3 [(0, .ref hC), (1, .int p0)] := hl
  have rg_p0 := fb_rng p0
  refine lv_iconst (v := 0) hx hb dX1_isUnsure_0 (by decide) ?_
  refine lv_istore_n (lv' := [(2, .int 0), (0, .ref hC), (1, .int p0)]) hx hb dX1_isUnsure_1 rfl hl (by decide) rfl (fun ls hl => ?_)
  have hl := lv_sub hl (l' := [(2, .int 0), (0, .ref hC), (1, .int p0)]) [0, 1, 2] rfl
  have key : ∀ (n_136 : Nat) (z_135 : Int32) (H : Heap) (locs : List Loc) (ls : Array Slot), (0 ≤ z_135.toInt ∧ z_135.toInt ≤ 4) → (4 - z_135.toInt).toNat < n_136 → va_P (dC, dI) vwCl [(hC, .inr (1, [.int iC_nodes, .int iC_words, .int iC_chances, .int iC_unsures, .int iC_slips, .int iC_throneNode, .int iC_saidWorth, .int iC_unit, .ref rC_kind, .ref rC_parts, .ref rC_partNodes, .ref rC_weights, .ref rC_weightSums, .ref rC_toldWorths, .ref rC_steps, .ref rC_below, .ref rC_above, .ref rC_unsureWords, .ref rC_unsureWorths])), (rC_unsureWords, .inl (kC_unsureWords, 4, .inl fC_unsureWords))] H → va_D A [(hC, .inr (1, [.int iC_nodes, .int iC_words, .int iC_chances, .int iC_unsures, .int iC_slips, .int iC_throneNode, .int iC_saidWorth, .int iC_unit, .ref rC_kind, .ref rC_parts, .ref rC_partNodes, .ref rC_weights, .ref rC_weightSums, .ref rC_toldWorths, .ref rC_steps, .ref rC_below, .ref rC_above, .ref rC_unsureWords, .ref rC_unsureWorths])), (rC_unsureWords, .inl (kC_unsureWords, 4, .inl fC_unsureWords))] → va_S A s.heap H locs → lv_has ls 3 [(2, .int z_135), (0, .ref hC), (1, .int p0)] → W p l e (headSpec (Cond.code yX1_isUnsure cX1_isUnsure 3 (some .boolean) :: wG) ({ frames := 0, cells := 0, slots := 0, locals := 0 })).room s m ([.ref hC, .int p0] : List Value).toArray below meth c H locs 0 0 (MQ below (va_Qi (fun (r : Int32) (_ : Nat) => (r = 0 ∨ r = 1) ∧ True) (fun (_ : Nat) (t : State) => Bw dC dI A [(hC, .inr (1, [.int iC_nodes, .int iC_words, .int iC_chances, .int iC_unsures, .int iC_slips, .int iC_throneNode, .int iC_saidWorth, .int iC_unit, .ref rC_kind, .ref rC_parts, .ref rC_partNodes, .ref rC_weights, .ref rC_weightSums, .ref rC_toldWorths, .ref rC_steps, .ref rC_below, .ref rC_above, .ref rC_unsureWords, .ref rC_unsureWorths])), (rC_unsureWords, .inl (kC_unsureWords, 4, .inl fC_unsureWords))] [(kC_unsureWords, .int)] t) A) ([.ref hC, .int p0] : List Value).toArray s 0 0 A) (F0 m 2 ls []) := by
    intro n_136
    induction n_136 with
    | zero => intro z_135 H locs ls hi0_n_136 hm; exact absurd hm (by omega)
    | succ n_136 ih =>
      intro z_135 H locs ls hi0_n_136 hm hP hD hS hl
      have rg_z_135 := fb_rng z_135
      refine lv_iload_n hx hb dX1_isUnsure_2 rfl (lv_at hl 0 rfl) ?_
      refine lv_aload_n hx hb dX1_isUnsure_3 rfl (lv_at hl 1 rfl) ?_
      refine va_get (D := (dC, dI)) (ci := 1) (v := .int iC_unsures) (C := RX1) (T := TX1) (N := 19) hx hb hts inX1 hown hK hP 0 rfl rfl 3 (by decide) (hts _ wd_218) (fun _ h9 => h9) rfl dX1_isUnsure_4 ?_
      have rg_iC_unsures := fb_rng iC_unsures
      refine lv_icmp_ge (tgt := 28) hx hb dX1_isUnsure_7 (by decide) (fun c_137 => ?_) (fun c_137 => ?_)
      · skip
        have gc_137 := ti_le c_137 rfl rfl
        refine lv_iconst (v := 0) hx hb dX1_isUnsure_28 (by decide) ?_
        have hP9 := hP.sub (ws' := [(hC, .inr (1, [.int iC_nodes, .int iC_words, .int iC_chances, .int iC_unsures, .int iC_slips, .int iC_throneNode, .int iC_saidWorth, .int iC_unit, .ref rC_kind, .ref rC_parts, .ref rC_partNodes, .ref rC_weights, .ref rC_weightSums, .ref rC_toldWorths, .ref rC_steps, .ref rC_below, .ref rC_above, .ref rC_unsureWords, .ref rC_unsureWorths])), (rC_unsureWords, .inl (kC_unsureWords, 4, .inl fC_unsureWords))]) [0, 1] rfl
        have hD9 := hD.sub (ws' := [(hC, .inr (1, [.int iC_nodes, .int iC_words, .int iC_chances, .int iC_unsures, .int iC_slips, .int iC_throneNode, .int iC_saidWorth, .int iC_unit, .ref rC_kind, .ref rC_parts, .ref rC_partNodes, .ref rC_weights, .ref rC_weightSums, .ref rC_toldWorths, .ref rC_steps, .ref rC_below, .ref rC_above, .ref rC_unsureWords, .ref rC_unsureWorths])), (rC_unsureWords, .inl (kC_unsureWords, 4, .inl fC_unsureWords))]) [0, 1] (by decide) rfl
        have hK9 := hK.sub (tys' := [(kC_unsureWords, .int)]) [0] rfl
        exact W.zret (v := 0) hx hb hr rfl (fun t ht hW => ⟨⟨_, 0, rfl, ⟨Or.inl rfl, trivial⟩, Bw.to hP9 hD9 hK9 ht hW⟩, hS.F ht⟩) hS.2.2 dX1_isUnsure_29
      · skip
        have gc_137 := ti_nle c_137 rfl rfl
        refine lv_aload_n hx hb dX1_isUnsure_10 rfl (lv_at hl 1 rfl) ?_
        refine va_get (D := (dC, dI)) (ci := 1) (v := .ref rC_unsureWords) (C := RX1) (T := TX1) (N := 19) hx hb hts inX1 hown hK hP 0 rfl rfl 17 (by decide) (hts _ wd_63) (fun _ h9 => h9) rfl dX1_isUnsure_11 ?_
        refine lv_iload_n hx hb dX1_isUnsure_14 rfl (lv_at hl 0 rfl) ?_
        refine va_iald hx hb hK hP 1 0 rfl rfl (ti_in rfl (by omega) (by omega)) dX1_isUnsure_15 ?_
        refine lv_topi (fun x_138 ex_138 => ?_)
        have rg_x_138 := fb_rng x_138
        have ux_138 := a_fC_unsureWords _ (by have q := ti_cl (x := z_135) rfl (by omega); omega : z_135.toNatClampNeg < 4)
        rw [show fC_unsureWords z_135.toNatClampNeg = x_138 from ex_138.symm] at ux_138
        refine lv_iload_n hx hb dX1_isUnsure_16 rfl (lv_at hl 2 rfl) ?_
        refine lv_icmp_ne (tgt := 22) hx hb dX1_isUnsure_17 (by decide) (fun c_139 => ?_) (fun c_139 => ?_)
        · skip
          have gc_139 := ti_ne c_139 rfl rfl
          obtain ⟨x_140, ex_140⟩ : ∃ z : Int32, z = z_135 + Int32.ofInt 1 := ⟨_, rfl⟩
          have vx_140 : x_140.toInt = z_135.toInt + 1 := by have q := ti_add (y := 1) ex_140 rfl kc_1 (by omega) (by omega); omega
          refine lv_iinc (v := x_140) (lv' := [(2, .int x_140), (0, .ref hC), (1, .int p0)]) hx hb dX1_isUnsure_22 hl (k := 0) rfl ex_140.symm (by decide) rfl (fun ls hl => ?_)
          refine lv_goto (tgt := 2) hx hb dX1_isUnsure_25 (by decide) ?_
          exact ih x_140 _ _ _  (by first | omega | decide) (by omega) (hP.sub [0, 1] rfl) (hD.sub [0, 1] (by decide) rfl) hS (lv_sub hl [0, 1, 2] rfl)
        · skip
          have gc_139 := ti_eq c_139 rfl rfl
          refine lv_iconst (v := 1) hx hb dX1_isUnsure_20 (by decide) ?_
          have hP9 := hP.sub (ws' := [(hC, .inr (1, [.int iC_nodes, .int iC_words, .int iC_chances, .int iC_unsures, .int iC_slips, .int iC_throneNode, .int iC_saidWorth, .int iC_unit, .ref rC_kind, .ref rC_parts, .ref rC_partNodes, .ref rC_weights, .ref rC_weightSums, .ref rC_toldWorths, .ref rC_steps, .ref rC_below, .ref rC_above, .ref rC_unsureWords, .ref rC_unsureWorths])), (rC_unsureWords, .inl (kC_unsureWords, 4, .inl fC_unsureWords))]) [0, 1] rfl
          have hD9 := hD.sub (ws' := [(hC, .inr (1, [.int iC_nodes, .int iC_words, .int iC_chances, .int iC_unsures, .int iC_slips, .int iC_throneNode, .int iC_saidWorth, .int iC_unit, .ref rC_kind, .ref rC_parts, .ref rC_partNodes, .ref rC_weights, .ref rC_weightSums, .ref rC_toldWorths, .ref rC_steps, .ref rC_below, .ref rC_above, .ref rC_unsureWords, .ref rC_unsureWorths])), (rC_unsureWords, .inl (kC_unsureWords, 4, .inl fC_unsureWords))]) [0, 1] (by decide) rfl
          have hK9 := hK.sub (tys' := [(kC_unsureWords, .int)]) [0] rfl
          exact W.zret (v := 1) hx hb hr rfl (fun t ht hW => ⟨⟨_, 0, rfl, ⟨Or.inr rfl, trivial⟩, Bw.to hP9 hD9 hK9 ht hW⟩, hS.F ht⟩) hS.2.2 dX1_isUnsure_21
  exact key ((4 - (0 : Int32).toInt).toNat + 1) 0 _ _ _  (by first | omega | decide) (by omega) hP hD hS hl
