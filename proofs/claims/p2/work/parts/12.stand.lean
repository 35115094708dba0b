set_option maxHeartbeats 4000000 in
set_option maxRecDepth 100000 in
theorem tX5_standAsTold (l : Launch) (dC : Nat → ClassId) (dI : Nat → Nat → Nat) (sz : Nat) (oS : Nat) (rS_worths : Nat) (fS_worths : Nat → Int32) (kS_worths : ClassId) (rS_order : Nat) (fS_order : Nat → Int32) (kS_order : ClassId) (rS_left : Nat) (oC : Nat) (iC_nodes : Int32) (iC_words : Int32) (iC_chances : Int32) (iC_unsures : Int32) (iC_slips : Int32) (iC_throneNode : Int32) (iC_saidWorth : Int32) (iC_unit : Int32) (rC_kind : Nat) (rC_parts : Nat) (rC_partNodes : Nat) (rC_weights : Nat) (rC_weightSums : Nat) (rC_toldWorths : Nat) (fC_toldWorths : Nat → Int32) (kC_toldWorths : ClassId) (rC_steps : Nat) (rC_below : Nat) (rC_above : Nat) (rC_unsureWords : Nat) (rC_unsureWorths : Nat) (a_fS_order : ∀ j : Nat, j < 72 → 0 ≤ (fS_order j).toInt ∧ (fS_order j).toInt ≤ 3) (b_iC_nodes : 0 ≤ iC_nodes.toInt ∧ iC_nodes.toInt ≤ 18) (b_iC_unsures : 0 ≤ iC_unsures.toInt ∧ iC_unsures.toInt ≤ 4) (b_iC_throneNode : (-1) ≤ iC_throneNode.toInt ∧ iC_throneNode.toInt ≤ 17)  : Met l yX5_standAsTold (Cond.code yX5_standAsTold cX5_standAsTold 4 none :: wG) ({ frames := 0, cells := 0, slots := 0, locals := 0 }) (va_Pc [.ref oS, .ref oC] (Pw dC dI sz [(oS, .inr (5, [.ref rS_worths, .ref rS_order, .ref rS_left])), (rS_worths, .inl (kS_worths, 18, .inl fS_worths)), (rS_order, .inl (kS_order, 72, .inl fS_order)), (oC, .inr (1, [.int iC_nodes, .int iC_words, .int iC_chances, .int iC_unsures, .int iC_slips, .int iC_throneNode, .int iC_saidWorth, .int iC_unit, .ref rC_kind, .ref rC_parts, .ref rC_partNodes, .ref rC_weights, .ref rC_weightSums, .ref rC_toldWorths, .ref rC_steps, .ref rC_below, .ref rC_above, .ref rC_unsureWords, .ref rC_unsureWorths])), (rC_toldWorths, .inl (kC_toldWorths, 18, .inl fC_toldWorths))] [(kS_worths, .int), (kS_order, .int), (kC_toldWorths, .int)])) (va_Qv (fun (_ : Nat) => True) (fun (_ : Nat) (t : State) => ∃ (nfS_worths : Nat → Int32) (nfS_order : Nat → Int32), (∀ j : Nat, j < 72 → 0 ≤ (nfS_order j).toInt ∧ (nfS_order j).toInt ≤ 3) ∧ Bw dC dI (va_A [(oS, .inr (5, [.ref rS_worths, .ref rS_order, .ref rS_left])), (rS_worths, .inl (kS_worths, 18, .inl fS_worths)), (rS_order, .inl (kS_order, 72, .inl fS_order)), (oC, .inr (1, [.int iC_nodes, .int iC_words, .int iC_chances, .int iC_unsures, .int iC_slips, .int iC_throneNode, .int iC_saidWorth, .int iC_unit, .ref rC_kind, .ref rC_parts, .ref rC_partNodes, .ref rC_weights, .ref rC_weightSums, .ref rC_toldWorths, .ref rC_steps, .ref rC_below, .ref rC_above, .ref rC_unsureWords, .ref rC_unsureWorths])), (rC_toldWorths, .inl (kC_toldWorths, 18, .inl fC_toldWorths))] sz) [(oS, .inr (5, [.ref rS_worths, .ref rS_order, .ref rS_left])), (rS_worths, .inl (kS_worths, 18, .inl nfS_worths)), (rS_order, .inl (kS_order, 72, .inl nfS_order)), (oC, .inr (1, [.int iC_nodes, .int iC_words, .int iC_chances, .int iC_unsures, .int iC_slips, .int iC_throneNode, .int iC_saidWorth, .int iC_unit, .ref rC_kind, .ref rC_parts, .ref rC_partNodes, .ref rC_weights, .ref rC_weightSums, .ref rC_toldWorths, .ref rC_steps, .ref rC_below, .ref rC_above, .ref rC_unsureWords, .ref rC_unsureWorths])), (rC_toldWorths, .inl (kC_toldWorths, 18, .inl fC_toldWorths))] [(kS_worths, .int), (kS_order, .int), (kC_toldWorths, .int)] t) (va_A [(oS, .inr (5, [.ref rS_worths, .ref rS_order, .ref rS_left])), (rS_worths, .inl (kS_worths, 18, .inl fS_worths)), (rS_order, .inl (kS_order, 72, .inl fS_order)), (oC, .inr (1, [.int iC_nodes, .int iC_words, .int iC_chances, .int iC_unsures, .int iC_slips, .int iC_throneNode, .int iC_saidWorth, .int iC_unit, .ref rC_kind, .ref rC_parts, .ref rC_partNodes, .ref rC_weights, .ref rC_weightSums, .ref rC_toldWorths, .ref rC_steps, .ref rC_below, .ref rC_above, .ref rC_unsureWords, .ref rC_unsureWorths])), (rC_toldWorths, .inl (kC_toldWorths, 18, .inl fC_toldWorths))] sz)) 0 0 (va_A [(oS, .inr (5, [.ref rS_worths, .ref rS_order, .ref rS_left])), (rS_worths, .inl (kS_worths, 18, .inl fS_worths)), (rS_order, .inl (kS_order, 72, .inl fS_order)), (oC, .inr (1, [.int iC_nodes, .int iC_words, .int iC_chances, .int iC_unsures, .int iC_slips, .int iC_throneNode, .int iC_saidWorth, .int iC_unit, .ref rC_kind, .ref rC_parts, .ref rC_partNodes, .ref rC_weights, .ref rC_weightSums, .ref rC_toldWorths, .ref rC_steps, .ref rC_below, .ref rC_above, .ref rC_unsureWords, .ref rC_unsureWorths])), (rC_toldWorths, .inl (kC_toldWorths, 18, .inl fC_toldWorths))] sz) := by
  refine Met.ofW (cc := cX5_standAsTold) (maxL := 4) (ret := none) (by decide) rfl ?_
  intro p e s m args below meth c s₁ B hml hv
  obtain ⟨rfl, hsz, hP, hK, hD0, hE⟩ := hv
  have hx := B.exec
  have hb := B.bytes
  have hr := B.returns
  have hts : ∀ w ∈ wG, w.before ([.ref oS, .ref oC] : List Value).toArray s = true := fun w h => atoms_spec (ws := Cond.code yX5_standAsTold cX5_standAsTold 4 none :: wG) B.pre w (List.mem_cons_of_mem _ h)
  have hown : s.vm.findClass RX5 = some m.cls := findClass_of_methodNamed B.named
  have hlocks := B.notSynchronized
  subst hsz
  have hD := hD0.self (sz := s.heap.size)
  generalize hAe : va_A [(oS, .inr (5, [.ref rS_worths, .ref rS_order, .ref rS_left])), (rS_worths, .inl (kS_worths, 18, .inl fS_worths)), (rS_order, .inl (kS_order, 72, .inl fS_order)), (oC, .inr (1, [.int iC_nodes, .int iC_words, .int iC_chances, .int iC_unsures, .int iC_slips, .int iC_throneNode, .int iC_saidWorth, .int iC_unit, .ref rC_kind, .ref rC_parts, .ref rC_partNodes, .ref rC_weights, .ref rC_weightSums, .ref rC_toldWorths, .ref rC_steps, .ref rC_below, .ref rC_above, .ref rC_unsureWords, .ref rC_unsureWorths])), (rC_toldWorths, .inl (kC_toldWorths, 18, .inl fC_toldWorths))] s.heap.size = A at hD hE ⊢
  have hA : ∀ q : Nat, s.heap.size ≤ q → A q := fun q h => by rw [← hAe]; exact Or.inr h
  have hS : va_S A s.heap s.heap [] := va_S.rf
  have hl := lv_entry ([.ref oS, .ref oC]) (n := 4) (Nat.le_of_ble_eq_true rfl)
  rw [lg_entry_eq]
  generalize (lg_sl ([.ref oS, .ref oC]) ++ List.replicate (4 - (lg_sl ([.ref oS, .ref oC])).length) Slot.unset).toArray = ls at hl ⊢
  have hl : lv_has ls 4 [(0, .ref oS), (1, .ref oC)] := hl
  refine lv_iconst (v := 0) hx hb dX5_standAsTold_0 (by decide) ?_
  refine lv_istore_n (lv' := [(2, .int 0), (0, .ref oS), (1, .ref oC)]) hx hb dX5_standAsTold_1 rfl hl (by decide) rfl (fun ls hl => ?_)
  have hl := lv_sub hl (l' := [(2, .int 0), (0, .ref oS), (1, .ref oC)]) [0, 1, 2] rfl
  have key_n_396 : ∀ (n_396 : Nat) (z_393 : Int32) (f_394 : Nat → Int32) (f_395 : Nat → Int32) (H : Heap) (locs : List Loc) (ls : Array Slot), (∀ j : Nat, j < 72 → 0 ≤ (f_395 j).toInt ∧ (f_395 j).toInt ≤ 3) → (0 ≤ z_393.toInt ∧ z_393.toInt ≤ 2147483647) → (2147483647 - z_393.toInt).toNat < n_396 → va_P (dC, dI) vwCl [(oS, .inr (5, [.ref rS_worths, .ref rS_order, .ref rS_left])), (rS_worths, .inl (kS_worths, 18, .inl f_394)), (rS_order, .inl (kS_order, 72, .inl f_395)), (oC, .inr (1, [.int iC_nodes, .int iC_words, .int iC_chances, .int iC_unsures, .int iC_slips, .int iC_throneNode, .int iC_saidWorth, .int iC_unit, .ref rC_kind, .ref rC_parts, .ref rC_partNodes, .ref rC_weights, .ref rC_weightSums, .ref rC_toldWorths, .ref rC_steps, .ref rC_below, .ref rC_above, .ref rC_unsureWords, .ref rC_unsureWorths])), (rC_toldWorths, .inl (kC_toldWorths, 18, .inl fC_toldWorths))] H → va_D A [(oS, .inr (5, [.ref rS_worths, .ref rS_order, .ref rS_left])), (rS_worths, .inl (kS_worths, 18, .inl f_394)), (rS_order, .inl (kS_order, 72, .inl f_395)), (oC, .inr (1, [.int iC_nodes, .int iC_words, .int iC_chances, .int iC_unsures, .int iC_slips, .int iC_throneNode, .int iC_saidWorth, .int iC_unit, .ref rC_kind, .ref rC_parts, .ref rC_partNodes, .ref rC_weights, .ref rC_weightSums, .ref rC_toldWorths, .ref rC_steps, .ref rC_below, .ref rC_above, .ref rC_unsureWords, .ref rC_unsureWorths])), (rC_toldWorths, .inl (kC_toldWorths, 18, .inl fC_toldWorths))] → va_S A s.heap H locs → lv_has ls 4 [(2, .int z_393), (0, .ref oS), (1, .ref oC)] → W p l e (headSpec (Cond.code yX5_standAsTold cX5_standAsTold 4 none :: wG) ({ frames := 0, cells := 0, slots := 0, locals := 0 })).room s m ([.ref oS, .ref oC] : List Value).toArray below meth c H locs 0 0 (MQ below (va_Qv (fun (_ : Nat) => True) (fun (_ : Nat) (t : State) => ∃ (nfS_worths : Nat → Int32) (nfS_order : Nat → Int32), (∀ j : Nat, j < 72 → 0 ≤ (nfS_order j).toInt ∧ (nfS_order j).toInt ≤ 3) ∧ Bw dC dI A [(oS, .inr (5, [.ref rS_worths, .ref rS_order, .ref rS_left])), (rS_worths, .inl (kS_worths, 18, .inl nfS_worths)), (rS_order, .inl (kS_order, 72, .inl nfS_order)), (oC, .inr (1, [.int iC_nodes, .int iC_words, .int iC_chances, .int iC_unsures, .int iC_slips, .int iC_throneNode, .int iC_saidWorth, .int iC_unit, .ref rC_kind, .ref rC_parts, .ref rC_partNodes, .ref rC_weights, .ref rC_weightSums, .ref rC_toldWorths, .ref rC_steps, .ref rC_below, .ref rC_above, .ref rC_unsureWords, .ref rC_unsureWorths])), (rC_toldWorths, .inl (kC_toldWorths, 18, .inl fC_toldWorths))] [(kS_worths, .int), (kS_order, .int), (kC_toldWorths, .int)] t) A) ([.ref oS, .ref oC] : List Value).toArray s 0 0 A) (F0 m 2 ls []) := by
    intro n_396
    induction n_396 with
    | zero => intro z_393 f_394 f_395 H locs ls a_f_395 hi0_n_396 hm; exact absurd hm (by omega)
    | succ n_396 ih_n_396 =>
      intro z_393 f_394 f_395 H locs ls a_f_395 hi0_n_396 hm hP hD hS hl
      have rg_z_393 := fb_rng z_393
      refine lv_iload_n hx hb dX5_standAsTold_2 rfl (lv_at hl 0 rfl) ?_
      refine lv_bipush (v := 18) hx hb dX5_standAsTold_3 (by decide) ?_
      refine lv_icmp_ge (tgt := 50) hx hb dX5_standAsTold_5 (by decide) (fun c_397 => ?_) (fun c_397 => ?_)
      · skip
        have gc_397 := ti_le c_397 kc_18 rfl
        have hP9 := hP.sub (ws' := [(oS, .inr (5, [.ref rS_worths, .ref rS_order, .ref rS_left])), (rS_worths, .inl (kS_worths, 18, .inl f_394)), (rS_order, .inl (kS_order, 72, .inl f_395)), (oC, .inr (1, [.int iC_nodes, .int iC_words, .int iC_chances, .int iC_unsures, .int iC_slips, .int iC_throneNode, .int iC_saidWorth, .int iC_unit, .ref rC_kind, .ref rC_parts, .ref rC_partNodes, .ref rC_weights, .ref rC_weightSums, .ref rC_toldWorths, .ref rC_steps, .ref rC_below, .ref rC_above, .ref rC_unsureWords, .ref rC_unsureWorths])), (rC_toldWorths, .inl (kC_toldWorths, 18, .inl fC_toldWorths))]) [0, 1, 2, 3, 4] rfl
        have hD9 := hD.sub (ws' := [(oS, .inr (5, [.ref rS_worths, .ref rS_order, .ref rS_left])), (rS_worths, .inl (kS_worths, 18, .inl f_394)), (rS_order, .inl (kS_order, 72, .inl f_395)), (oC, .inr (1, [.int iC_nodes, .int iC_words, .int iC_chances, .int iC_unsures, .int iC_slips, .int iC_throneNode, .int iC_saidWorth, .int iC_unit, .ref rC_kind, .ref rC_parts, .ref rC_partNodes, .ref rC_weights, .ref rC_weightSums, .ref rC_toldWorths, .ref rC_steps, .ref rC_below, .ref rC_above, .ref rC_unsureWords, .ref rC_unsureWorths])), (rC_toldWorths, .inl (kC_toldWorths, 18, .inl fC_toldWorths))]) [0, 1, 2, 3, 4] (by decide) rfl
        have hK9 := hK.sub (tys' := [(kS_worths, .int), (kS_order, .int), (kC_toldWorths, .int)]) [0, 1, 2] rfl
        exact W.vret hx hb hr (fun t ht hW => ⟨⟨0, rfl, trivial, ⟨f_394, f_395, a_f_395, Bw.to hP9 hD9 hK9 ht hW⟩⟩, hS.F ht⟩) hS.2.2 dX5_standAsTold_50
      · skip
        have gc_397 := ti_nle c_397 kc_18 rfl
        refine lv_aload_n hx hb dX5_standAsTold_8 rfl (lv_at hl 1 rfl) ?_
        refine va_get (D := (dC, dI)) (ci := 5) (v := .ref rS_worths) (C := RX5) (T := TX5) (N := 3) hx hb hts inX5 hown hK hP 0 rfl rfl 0 (by decide) (hts _ wd_128) (fun _ h9 => h9) rfl dX5_standAsTold_9 ?_
        refine lv_iload_n hx hb dX5_standAsTold_12 rfl (lv_at hl 0 rfl) ?_
        refine lv_aload_n hx hb dX5_standAsTold_13 rfl (lv_at hl 2 rfl) ?_
        refine va_get (D := (dC, dI)) (ci := 1) (v := .ref rC_toldWorths) (C := RX1) (T := TX1) (N := 19) hx hb hts inX1 hown hK hP 3 rfl rfl 13 (by decide) (hts _ wd_369) (fun _ h9 => h9) rfl dX5_standAsTold_14 ?_
        refine lv_iload_n hx hb dX5_standAsTold_17 rfl (lv_at hl 0 rfl) ?_
        refine va_iald hx hb hK hP 4 2 rfl rfl (ti_in rfl (by omega) (by omega)) dX5_standAsTold_18 ?_
        refine lv_topi (fun x_398 ex_398 => ?_)
        have rg_x_398 := fb_rng x_398
        have kx_398 : (fC_toldWorths z_393.toNatClampNeg).toInt = x_398.toInt := by rw [ex_398]
        refine vz_iast hx hb hK hP hD hS 1 0 rfl rfl (ti_in rfl (by omega) (by omega)) dX5_standAsTold_19 (fun H locs f_399 hP hD hS => ?_)
        have hP : va_P (dC, dI) vwCl [(oS, .inr (5, [.ref rS_worths, .ref rS_order, .ref rS_left])), (rS_worths, .inl (kS_worths, 18, .inl f_399)), (rS_order, .inl (kS_order, 72, .inl f_395)), (oC, .inr (1, [.int iC_nodes, .int iC_words, .int iC_chances, .int iC_unsures, .int iC_slips, .int iC_throneNode, .int iC_saidWorth, .int iC_unit, .ref rC_kind, .ref rC_parts, .ref rC_partNodes, .ref rC_weights, .ref rC_weightSums, .ref rC_toldWorths, .ref rC_steps, .ref rC_below, .ref rC_above, .ref rC_unsureWords, .ref rC_unsureWorths])), (rC_toldWorths, .inl (kC_toldWorths, 18, .inl fC_toldWorths))] H := hP
        have hD : va_D A [(oS, .inr (5, [.ref rS_worths, .ref rS_order, .ref rS_left])), (rS_worths, .inl (kS_worths, 18, .inl f_399)), (rS_order, .inl (kS_order, 72, .inl f_395)), (oC, .inr (1, [.int iC_nodes, .int iC_words, .int iC_chances, .int iC_unsures, .int iC_slips, .int iC_throneNode, .int iC_saidWorth, .int iC_unit, .ref rC_kind, .ref rC_parts, .ref rC_partNodes, .ref rC_weights, .ref rC_weightSums, .ref rC_toldWorths, .ref rC_steps, .ref rC_below, .ref rC_above, .ref rC_unsureWords, .ref rC_unsureWorths])), (rC_toldWorths, .inl (kC_toldWorths, 18, .inl fC_toldWorths))] := hD
        refine lv_iconst (v := 0) hx hb dX5_standAsTold_20 (by decide) ?_
        refine lv_istore_n (lv' := [(3, .int 0), (2, .int z_393), (0, .ref oS), (1, .ref oC)]) hx hb dX5_standAsTold_21 rfl hl (by decide) rfl (fun ls hl => ?_)
        have hl := lv_sub hl (l' := [(3, .int 0), (2, .int z_393), (0, .ref oS), (1, .ref oC)]) [0, 1, 2, 3] rfl
        have key_n_402 : ∀ (n_402 : Nat) (z_400 : Int32) (f_401 : Nat → Int32) (H : Heap) (locs : List Loc) (ls : Array Slot), (∀ j : Nat, j < 72 → 0 ≤ (f_401 j).toInt ∧ (f_401 j).toInt ≤ 3) → (0 ≤ z_400.toInt ∧ z_400.toInt ≤ 2147483647) → (2147483647 - z_400.toInt).toNat < n_402 → va_P (dC, dI) vwCl [(oS, .inr (5, [.ref rS_worths, .ref rS_order, .ref rS_left])), (rS_worths, .inl (kS_worths, 18, .inl f_399)), (rS_order, .inl (kS_order, 72, .inl f_401)), (oC, .inr (1, [.int iC_nodes, .int iC_words, .int iC_chances, .int iC_unsures, .int iC_slips, .int iC_throneNode, .int iC_saidWorth, .int iC_unit, .ref rC_kind, .ref rC_parts, .ref rC_partNodes, .ref rC_weights, .ref rC_weightSums, .ref rC_toldWorths, .ref rC_steps, .ref rC_below, .ref rC_above, .ref rC_unsureWords, .ref rC_unsureWorths])), (rC_toldWorths, .inl (kC_toldWorths, 18, .inl fC_toldWorths))] H → va_D A [(oS, .inr (5, [.ref rS_worths, .ref rS_order, .ref rS_left])), (rS_worths, .inl (kS_worths, 18, .inl f_399)), (rS_order, .inl (kS_order, 72, .inl f_401)), (oC, .inr (1, [.int iC_nodes, .int iC_words, .int iC_chances, .int iC_unsures, .int iC_slips, .int iC_throneNode, .int iC_saidWorth, .int iC_unit, .ref rC_kind, .ref rC_parts, .ref rC_partNodes, .ref rC_weights, .ref rC_weightSums, .ref rC_toldWorths, .ref rC_steps, .ref rC_below, .ref rC_above, .ref rC_unsureWords, .ref rC_unsureWorths])), (rC_toldWorths, .inl (kC_toldWorths, 18, .inl fC_toldWorths))] → va_S A s.heap H locs → lv_has ls 4 [(3, .int z_400), (2, .int z_393), (0, .ref oS), (1, .ref oC)] → W p l e (headSpec (Cond.code yX5_standAsTold cX5_standAsTold 4 none :: wG) ({ frames := 0, cells := 0, slots := 0, locals := 0 })).room s m ([.ref oS, .ref oC] : List Value).toArray below meth c H locs 0 0 (MQ below (va_Qv (fun (_ : Nat) => True) (fun (_ : Nat) (t : State) => ∃ (nfS_worths : Nat → Int32) (nfS_order : Nat → Int32), (∀ j : Nat, j < 72 → 0 ≤ (nfS_order j).toInt ∧ (nfS_order j).toInt ≤ 3) ∧ Bw dC dI A [(oS, .inr (5, [.ref rS_worths, .ref rS_order, .ref rS_left])), (rS_worths, .inl (kS_worths, 18, .inl nfS_worths)), (rS_order, .inl (kS_order, 72, .inl nfS_order)), (oC, .inr (1, [.int iC_nodes, .int iC_words, .int iC_chances, .int iC_unsures, .int iC_slips, .int iC_throneNode, .int iC_saidWorth, .int iC_unit, .ref rC_kind, .ref rC_parts, .ref rC_partNodes, .ref rC_weights, .ref rC_weightSums, .ref rC_toldWorths, .ref rC_steps, .ref rC_below, .ref rC_above, .ref rC_unsureWords, .ref rC_unsureWorths])), (rC_toldWorths, .inl (kC_toldWorths, 18, .inl fC_toldWorths))] [(kS_worths, .int), (kS_order, .int), (kC_toldWorths, .int)] t) A) ([.ref oS, .ref oC] : List Value).toArray s 0 0 A) (F0 m 22 ls []) := by
          intro n_402
          induction n_402 with
          | zero => intro z_400 f_401 H locs ls a_f_401 hi0_n_402 hm; exact absurd hm (by omega)
          | succ n_402 ih_n_402 =>
            intro z_400 f_401 H locs ls a_f_401 hi0_n_402 hm hP hD hS hl
            have rg_z_400 := fb_rng z_400
            refine lv_iload_n hx hb dX5_standAsTold_22 rfl (lv_at hl 0 rfl) ?_
            refine lv_iconst (v := 4) hx hb dX5_standAsTold_23 (by decide) ?_
            refine lv_icmp_ge (tgt := 44) hx hb dX5_standAsTold_24 (by decide) (fun c_403 => ?_) (fun c_403 => ?_)
            · skip
              have gc_403 := ti_le c_403 kc_4 rfl
              obtain ⟨x_404, ex_404⟩ : ∃ z : Int32, z = z_393 + Int32.ofInt 1 := ⟨_, rfl⟩
              have vx_404 : x_404.toInt = z_393.toInt + 1 := by have q := ti_add (y := 1) ex_404 rfl kc_1 (by omega) (by omega); omega
              refine lv_iinc (v := x_404) (lv' := [(2, .int x_404), (3, .int z_400), (0, .ref oS), (1, .ref oC)]) hx hb dX5_standAsTold_44 hl (k := 1) rfl ex_404.symm (by decide) rfl (fun ls hl => ?_)
              refine lv_goto (tgt := 2) hx hb dX5_standAsTold_47 (by decide) ?_
              exact ih_n_396 x_404 f_399 f_401 _ _ _ a_f_401 (by first | omega | decide | assumption) (by omega) (hP.sub [0, 1, 2, 3, 4] rfl) (hD.sub [0, 1, 2, 3, 4] (by decide) rfl) hS (lv_sub hl [0, 2, 3] rfl)
            · skip
              have gc_403 := ti_nle c_403 kc_4 rfl
              refine lv_aload_n hx hb dX5_standAsTold_27 rfl (lv_at hl 2 rfl) ?_
              refine va_get (D := (dC, dI)) (ci := 5) (v := .ref rS_order) (C := RX5) (T := TX5) (N := 3) hx hb hts inX5 hown hK hP 0 rfl rfl 1 (by decide) (hts _ wd_129) (fun _ h9 => h9) rfl dX5_standAsTold_28 ?_
              refine lv_iload_n hx hb dX5_standAsTold_31 rfl (lv_at hl 1 rfl) ?_
              refine lv_iconst (v := 4) hx hb dX5_standAsTold_32 (by decide) ?_
              refine lv_imul hx hb dX5_standAsTold_33 ?_
              refine lv_topi (fun x_405 ex_405 => ?_)
              have vx_405 : x_405.toInt = 4 * z_393.toInt := by have q := ti_mul ex_405 rfl kc_4 (by omega) (by omega); omega
              refine lv_iload_n hx hb dX5_standAsTold_34 rfl (lv_at hl 0 rfl) ?_
              refine lv_iadd hx hb dX5_standAsTold_35 ?_
              refine lv_topi (fun x_406 ex_406 => ?_)
              have vx_406 : x_406.toInt = 4 * z_393.toInt + z_400.toInt := by have q := ti_add ex_406 vx_405 rfl (by omega) (by omega); omega
              refine lv_iload_n hx hb dX5_standAsTold_36 rfl (lv_at hl 0 rfl) ?_
              refine vi_iast (lo := 0) (hi := 3) hx hb hK hP hD hS 2 1 rfl rfl (ti_in vx_406 (by omega) (by omega)) a_f_401 (by omega) dX5_standAsTold_37 (fun H locs f_407 a_f_407 hP hD hS => ?_)
              have hP : va_P (dC, dI) vwCl [(oS, .inr (5, [.ref rS_worths, .ref rS_order, .ref rS_left])), (rS_worths, .inl (kS_worths, 18, .inl f_399)), (rS_order, .inl (kS_order, 72, .inl f_407)), (oC, .inr (1, [.int iC_nodes, .int iC_words, .int iC_chances, .int iC_unsures, .int iC_slips, .int iC_throneNode, .int iC_saidWorth, .int iC_unit, .ref rC_kind, .ref rC_parts, .ref rC_partNodes, .ref rC_weights, .ref rC_weightSums, .ref rC_toldWorths, .ref rC_steps, .ref rC_below, .ref rC_above, .ref rC_unsureWords, .ref rC_unsureWorths])), (rC_toldWorths, .inl (kC_toldWorths, 18, .inl fC_toldWorths))] H := hP
              have hD : va_D A [(oS, .inr (5, [.ref rS_worths, .ref rS_order, .ref rS_left])), (rS_worths, .inl (kS_worths, 18, .inl f_399)), (rS_order, .inl (kS_order, 72, .inl f_407)), (oC, .inr (1, [.int iC_nodes, .int iC_words, .int iC_chances, .int iC_unsures, .int iC_slips, .int iC_throneNode, .int iC_saidWorth, .int iC_unit, .ref rC_kind, .ref rC_parts, .ref rC_partNodes, .ref rC_weights, .ref rC_weightSums, .ref rC_toldWorths, .ref rC_steps, .ref rC_below, .ref rC_above, .ref rC_unsureWords, .ref rC_unsureWorths])), (rC_toldWorths, .inl (kC_toldWorths, 18, .inl fC_toldWorths))] := hD
              obtain ⟨x_408, ex_408⟩ : ∃ z : Int32, z = z_400 + Int32.ofInt 1 := ⟨_, rfl⟩
              have vx_408 : x_408.toInt = z_400.toInt + 1 := by have q := ti_add (y := 1) ex_408 rfl kc_1 (by omega) (by omega); omega
              refine lv_iinc (v := x_408) (lv' := [(3, .int x_408), (2, .int z_393), (0, .ref oS), (1, .ref oC)]) hx hb dX5_standAsTold_38 hl (k := 0) rfl ex_408.symm (by decide) rfl (fun ls hl => ?_)
              refine lv_goto (tgt := 22) hx hb dX5_standAsTold_41 (by decide) ?_
              exact ih_n_402 x_408 f_407 _ _ _ a_f_407 (by first | omega | decide | assumption) (by omega) (hP.sub [0, 1, 2, 3, 4] rfl) (hD.sub [0, 1, 2, 3, 4] (by decide) rfl) hS (lv_sub hl [0, 1, 2, 3] rfl)
        exact key_n_402 ((2147483647 - (0 : Int32).toInt).toNat + 1) 0 f_395 _ _ _ a_f_395 (by first | omega | decide | assumption | (have q0 := kc_0; have q1 := kc_1; omega)) (by omega) hP hD hS hl
  exact key_n_396 ((2147483647 - (0 : Int32).toInt).toNat + 1) 0 fS_worths fS_order _ _ _ a_fS_order (by first | omega | decide | assumption | (have q0 := kc_0; have q1 := kc_1; omega)) (by omega) hP hD hS hl
set_option maxHeartbeats 4000000 in
set_option maxRecDepth 100000 in
theorem tX5_copyFrom (l : Launch) (dC : Nat → ClassId) (dI : Nat → Nat → Nat) (sz : Nat) (oS : Nat) (rS_worths : Nat) (fS_worths : Nat → Int32) (kS_worths : ClassId) (rS_order : Nat) (fS_order : Nat → Int32) (kS_order : ClassId) (rS_left : Nat) (oT : Nat) (rT_worths : Nat) (fT_worths : Nat → Int32) (kT_worths : ClassId) (rT_order : Nat) (fT_order : Nat → Int32) (kT_order : ClassId) (rT_left : Nat) (a_fS_order : ∀ j : Nat, j < 72 → 0 ≤ (fS_order j).toInt ∧ (fS_order j).toInt ≤ 3) (a_fT_order : ∀ j : Nat, j < 72 → 0 ≤ (fT_order j).toInt ∧ (fT_order j).toInt ≤ 3)  : Met l yX5_copyFrom (Cond.code yX5_copyFrom cX5_copyFrom 2 none :: wG) ({ frames := 1, cells := 0, slots := 0, locals := 64 }) (va_Pc [.ref oS, .ref oT] (Pw dC dI sz [(oS, .inr (5, [.ref rS_worths, .ref rS_order, .ref rS_left])), (rS_worths, .inl (kS_worths, 18, .inl fS_worths)), (rS_order, .inl (kS_order, 72, .inl fS_order)), (oT, .inr (5, [.ref rT_worths, .ref rT_order, .ref rT_left])), (rT_worths, .inl (kT_worths, 18, .inl fT_worths)), (rT_order, .inl (kT_order, 72, .inl fT_order))] [(kS_worths, .int), (kS_order, .int), (kT_worths, .int), (kT_order, .int)])) (va_Qv (fun (_ : Nat) => True) (fun (_ : Nat) (t : State) => ∃ (nfS_worths : Nat → Int32) (nfS_order : Nat → Int32), (∀ j : Nat, j < 72 → 0 ≤ (nfS_order j).toInt ∧ (nfS_order j).toInt ≤ 3) ∧ Bw dC dI (va_A [(oS, .inr (5, [.ref rS_worths, .ref rS_order, .ref rS_left])), (rS_worths, .inl (kS_worths, 18, .inl fS_worths)), (rS_order, .inl (kS_order, 72, .inl fS_order)), (oT, .inr (5, [.ref rT_worths, .ref rT_order, .ref rT_left])), (rT_worths, .inl (kT_worths, 18, .inl fT_worths)), (rT_order, .inl (kT_order, 72, .inl fT_order))] sz) [(oS, .inr (5, [.ref rS_worths, .ref rS_order, .ref rS_left])), (rS_worths, .inl (kS_worths, 18, .inl nfS_worths)), (rS_order, .inl (kS_order, 72, .inl nfS_order)), (oT, .inr (5, [.ref rT_worths, .ref rT_order, .ref rT_left])), (rT_worths, .inl (kT_worths, 18, .inl fT_worths)), (rT_order, .inl (kT_order, 72, .inl fT_order))] [(kS_worths, .int), (kS_order, .int), (kT_worths, .int), (kT_order, .int)] t) (va_A [(oS, .inr (5, [.ref rS_worths, .ref rS_order, .ref rS_left])), (rS_worths, .inl (kS_worths, 18, .inl fS_worths)), (rS_order, .inl (kS_order, 72, .inl fS_order)), (oT, .inr (5, [.ref rT_worths, .ref rT_order, .ref rT_left])), (rT_worths, .inl (kT_worths, 18, .inl fT_worths)), (rT_order, .inl (kT_order, 72, .inl fT_order))] sz)) 0 0 (va_A [(oS, .inr (5, [.ref rS_worths, .ref rS_order, .ref rS_left])), (rS_worths, .inl (kS_worths, 18, .inl fS_worths)), (rS_order, .inl (kS_order, 72, .inl fS_order)), (oT, .inr (5, [.ref rT_worths, .ref rT_order, .ref rT_left])), (rT_worths, .inl (kT_worths, 18, .inl fT_worths)), (rT_order, .inl (kT_order, 72, .inl fT_order))] sz) := by
  refine Met.ofW (cc := cX5_copyFrom) (maxL := 2) (ret := none) (by decide) rfl ?_
  intro p e s m args below meth c s₁ B hml hv
  obtain ⟨rfl, hsz, hP, hK, hD0, hE⟩ := hv
  have hx := B.exec
  have hb := B.bytes
  have hr := B.returns
  have hts : ∀ w ∈ wG, w.before ([.ref oS, .ref oT] : List Value).toArray s = true := fun w h => atoms_spec (ws := Cond.code yX5_copyFrom cX5_copyFrom 2 none :: wG) B.pre w (List.mem_cons_of_mem _ h)
  have hown : s.vm.findClass RX5 = some m.cls := findClass_of_methodNamed B.named
  have hlocks := B.notSynchronized
  subst hsz
  have hD := hD0.self (sz := s.heap.size)
  generalize hAe : va_A [(oS, .inr (5, [.ref rS_worths, .ref rS_order, .ref rS_left])), (rS_worths, .inl (kS_worths, 18, .inl fS_worths)), (rS_order, .inl (kS_order, 72, .inl fS_order)), (oT, .inr (5, [.ref rT_worths, .ref rT_order, .ref rT_left])), (rT_worths, .inl (kT_worths, 18, .inl fT_worths)), (rT_order, .inl (kT_order, 72, .inl fT_order))] s.heap.size = A at hD hE ⊢
  have hA : ∀ q : Nat, s.heap.size ≤ q → A q := fun q h => by rw [← hAe]; exact Or.inr h
  have hS : va_S A s.heap s.heap [] := va_S.rf
  have hl := lv_entry ([.ref oS, .ref oT]) (n := 2) (Nat.le_of_ble_eq_true rfl)
  rw [lg_entry_eq]
  generalize (lg_sl ([.ref oS, .ref oT]) ++ List.replicate (2 - (lg_sl ([.ref oS, .ref oT])).length) Slot.unset).toArray = ls at hl ⊢
  have hl : lv_has ls 2 [(0, .ref oS), (1, .ref oT)] := hl
  refine lv_aload_n hx hb dX5_copyFrom_0 rfl (lv_at hl 1 rfl) ?_
  refine va_get (D := (dC, dI)) (ci := 5) (v := .ref rT_worths) (C := RX5) (T := TX5) (N := 3) hx hb hts inX5 hown hK hP 3 rfl rfl 0 (by decide) (hts _ wd_128) (fun _ h9 => h9) rfl dX5_copyFrom_1 ?_
  refine lv_iconst (v := 0) hx hb dX5_copyFrom_4 (by decide) ?_
  refine lv_aload_n hx hb dX5_copyFrom_5 rfl (lv_at hl 0 rfl) ?_
  refine va_get (D := (dC, dI)) (ci := 5) (v := .ref rS_worths) (C := RX5) (T := TX5) (N := 3) hx hb hts inX5 hown hK hP 0 rfl rfl 0 (by decide) (hts _ wd_128) (fun _ h9 => h9) rfl dX5_copyFrom_6 ?_
  refine lv_iconst (v := 0) hx hb dX5_copyFrom_9 (by decide) ?_
  refine lv_bipush (v := 18) hx hb dX5_copyFrom_10 (by decide) ?_
  refine vz_copyi hx hb (hml.trans hl.1.symm) hown (hts _ wd_1015) (hts _ wd_1016) (hts _ wd_1017) (hts _ wd_1018) hK hP hD hS 4 1 2 0 rfl rfl rfl rfl (k := 18) (by decide) (by decide) (Nat.le_of_ble_eq_true rfl) (Nat.le_of_ble_eq_true (by decide +kernel)) dX5_copyFrom_12 (fun H locs f_411 c_f_411 hP hD hS => ?_)
  have hP : va_P (dC, dI) vwCl [(oS, .inr (5, [.ref rS_worths, .ref rS_order, .ref rS_left])), (rS_worths, .inl (kS_worths, 18, .inl f_411)), (rS_order, .inl (kS_order, 72, .inl fS_order)), (oT, .inr (5, [.ref rT_worths, .ref rT_order, .ref rT_left])), (rT_worths, .inl (kT_worths, 18, .inl fT_worths)), (rT_order, .inl (kT_order, 72, .inl fT_order))] H := hP
  have hD : va_D A [(oS, .inr (5, [.ref rS_worths, .ref rS_order, .ref rS_left])), (rS_worths, .inl (kS_worths, 18, .inl f_411)), (rS_order, .inl (kS_order, 72, .inl fS_order)), (oT, .inr (5, [.ref rT_worths, .ref rT_order, .ref rT_left])), (rT_worths, .inl (kT_worths, 18, .inl fT_worths)), (rT_order, .inl (kT_order, 72, .inl fT_order))] := hD
  refine lv_aload_n hx hb dX5_copyFrom_15 rfl (lv_at hl 1 rfl) ?_
  refine va_get (D := (dC, dI)) (ci := 5) (v := .ref rT_order) (C := RX5) (T := TX5) (N := 3) hx hb hts inX5 hown hK hP 3 rfl rfl 1 (by decide) (hts _ wd_129) (fun _ h9 => h9) rfl dX5_copyFrom_16 ?_
  refine lv_iconst (v := 0) hx hb dX5_copyFrom_19 (by decide) ?_
  refine lv_aload_n hx hb dX5_copyFrom_20 rfl (lv_at hl 0 rfl) ?_
  refine va_get (D := (dC, dI)) (ci := 5) (v := .ref rS_order) (C := RX5) (T := TX5) (N := 3) hx hb hts inX5 hown hK hP 0 rfl rfl 1 (by decide) (hts _ wd_129) (fun _ h9 => h9) rfl dX5_copyFrom_21 ?_
  refine lv_iconst (v := 0) hx hb dX5_copyFrom_24 (by decide) ?_
  refine lv_bipush (v := 72) hx hb dX5_copyFrom_25 (by decide) ?_
  refine vz_copyi hx hb (hml.trans hl.1.symm) hown (hts _ wd_1015) (hts _ wd_1016) (hts _ wd_1017) (hts _ wd_1018) hK hP hD hS 5 2 3 1 rfl rfl rfl rfl (k := 72) (by decide) (by decide) (Nat.le_of_ble_eq_true rfl) (Nat.le_of_ble_eq_true (by decide +kernel)) dX5_copyFrom_27 (fun H locs f_412 c_f_412 hP hD hS => ?_)
  have a_f_412 := c_f_412 0 3 a_fT_order a_fS_order
  have hP : va_P (dC, dI) vwCl [(oS, .inr (5, [.ref rS_worths, .ref rS_order, .ref rS_left])), (rS_worths, .inl (kS_worths, 18, .inl f_411)), (rS_order, .inl (kS_order, 72, .inl f_412)), (oT, .inr (5, [.ref rT_worths, .ref rT_order, .ref rT_left])), (rT_worths, .inl (kT_worths, 18, .inl fT_worths)), (rT_order, .inl (kT_order, 72, .inl fT_order))] H := hP
  have hD : va_D A [(oS, .inr (5, [.ref rS_worths, .ref rS_order, .ref rS_left])), (rS_worths, .inl (kS_worths, 18, .inl f_411)), (rS_order, .inl (kS_order, 72, .inl f_412)), (oT, .inr (5, [.ref rT_worths, .ref rT_order, .ref rT_left])), (rT_worths, .inl (kT_worths, 18, .inl fT_worths)), (rT_order, .inl (kT_order, 72, .inl fT_order))] := hD
  have hP9 := hP.sub (ws' := [(oS, .inr (5, [.ref rS_worths, .ref rS_order, .ref rS_left])), (rS_worths, .inl (kS_worths, 18, .inl f_411)), (rS_order, .inl (kS_order, 72, .inl f_412)), (oT, .inr (5, [.ref rT_worths, .ref rT_order, .ref rT_left])), (rT_worths, .inl (kT_worths, 18, .inl fT_worths)), (rT_order, .inl (kT_order, 72, .inl fT_order))]) [0, 1, 2, 3, 4, 5] rfl
  have hD9 := hD.sub (ws' := [(oS, .inr (5, [.ref rS_worths, .ref rS_order, .ref rS_left])), (rS_worths, .inl (kS_worths, 18, .inl f_411)), (rS_order, .inl (kS_order, 72, .inl f_412)), (oT, .inr (5, [.ref rT_worths, .ref rT_order, .ref rT_left])), (rT_worths, .inl (kT_worths, 18, .inl fT_worths)), (rT_order, .inl (kT_order, 72, .inl fT_order))]) [0, 1, 2, 3, 4, 5] (by decide) rfl
  have hK9 := hK.sub (tys' := [(kS_worths, .int), (kS_order, .int), (kT_worths, .int), (kT_order, .int)]) [0, 1, 2, 3] rfl
  exact W.vret hx hb hr (fun t ht hW => ⟨⟨0, rfl, trivial, ⟨f_411, f_412, a_f_412, Bw.to hP9 hD9 hK9 ht hW⟩⟩, hS.F ht⟩) hS.2.2 dX5_copyFrom_30
set_option maxHeartbeats 4000000 in
set_option maxRecDepth 100000 in
theorem tX5_partAt (l : Launch) (dC : Nat → ClassId) (dI : Nat → Nat → Nat) (sz : Nat) (oS : Nat) (rS_worths : Nat) (rS_order : Nat) (fS_order : Nat → Int32) (kS_order : ClassId) (rS_left : Nat) (oC : Nat) (iC_nodes : Int32) (iC_words : Int32) (iC_chances : Int32) (iC_unsures : Int32) (iC_slips : Int32) (iC_throneNode : Int32) (iC_saidWorth : Int32) (iC_unit : Int32) (rC_kind : Nat) (rC_parts : Nat) (rC_partNodes : Nat) (fC_partNodes : Nat → Int32) (kC_partNodes : ClassId) (rC_weights : Nat) (rC_weightSums : Nat) (rC_toldWorths : Nat) (rC_steps : Nat) (rC_below : Nat) (rC_above : Nat) (rC_unsureWords : Nat) (rC_unsureWorths : Nat) (p0 : Int32) (p1 : Int32) (a_fS_order : ∀ j : Nat, j < 72 → 0 ≤ (fS_order j).toInt ∧ (fS_order j).toInt ≤ 3) (b_iC_nodes : 0 ≤ iC_nodes.toInt ∧ iC_nodes.toInt ≤ 18) (b_iC_unsures : 0 ≤ iC_unsures.toInt ∧ iC_unsures.toInt ≤ 4) (b_iC_throneNode : (-1) ≤ iC_throneNode.toInt ∧ iC_throneNode.toInt ≤ 17) (a_fC_partNodes : ∀ j : Nat, j < 72 → 0 ≤ (fC_partNodes j).toInt ∧ (fC_partNodes j).toInt ≤ 17) (hp0 : 0 ≤ p0.toInt ∧ p0.toInt ≤ 17) (hp1 : 0 ≤ p1.toInt ∧ p1.toInt ≤ 3) : Met l yX5_partAt (Cond.code yX5_partAt cX5_partAt 4 (some .int) :: wG) ({ frames := 0, cells := 0, slots := 0, locals := 0 }) (va_Pc [.ref oS, .ref oC, .int p0, .int p1] (Pw dC dI sz [(oS, .inr (5, [.ref rS_worths, .ref rS_order, .ref rS_left])), (rS_order, .inl (kS_order, 72, .inl fS_order)), (oC, .inr (1, [.int iC_nodes, .int iC_words, .int iC_chances, .int iC_unsures, .int iC_slips, .int iC_throneNode, .int iC_saidWorth, .int iC_unit, .ref rC_kind, .ref rC_parts, .ref rC_partNodes, .ref rC_weights, .ref rC_weightSums, .ref rC_toldWorths, .ref rC_steps, .ref rC_below, .ref rC_above, .ref rC_unsureWords, .ref rC_unsureWorths])), (rC_partNodes, .inl (kC_partNodes, 72, .inl fC_partNodes))] [(kS_order, .int), (kC_partNodes, .int)])) (va_Qi (fun (r : Int32) (_ : Nat) => True ∧ (0 ≤ r.toInt ∧ r.toInt ≤ 17)) (fun (_ : Nat) (t : State) => Bw dC dI (va_A [(oS, .inr (5, [.ref rS_worths, .ref rS_order, .ref rS_left])), (rS_order, .inl (kS_order, 72, .inl fS_order)), (oC, .inr (1, [.int iC_nodes, .int iC_words, .int iC_chances, .int iC_unsures, .int iC_slips, .int iC_throneNode, .int iC_saidWorth, .int iC_unit, .ref rC_kind, .ref rC_parts, .ref rC_partNodes, .ref rC_weights, .ref rC_weightSums, .ref rC_toldWorths, .ref rC_steps, .ref rC_below, .ref rC_above, .ref rC_unsureWords, .ref rC_unsureWorths])), (rC_partNodes, .inl (kC_partNodes, 72, .inl fC_partNodes))] sz) [(oS, .inr (5, [.ref rS_worths, .ref rS_order, .ref rS_left])), (rS_order, .inl (kS_order, 72, .inl fS_order)), (oC, .inr (1, [.int iC_nodes, .int iC_words, .int iC_chances, .int iC_unsures, .int iC_slips, .int iC_throneNode, .int iC_saidWorth, .int iC_unit, .ref rC_kind, .ref rC_parts, .ref rC_partNodes, .ref rC_weights, .ref rC_weightSums, .ref rC_toldWorths, .ref rC_steps, .ref rC_below, .ref rC_above, .ref rC_unsureWords, .ref rC_unsureWorths])), (rC_partNodes, .inl (kC_partNodes, 72, .inl fC_partNodes))] [(kS_order, .int), (kC_partNodes, .int)] t) (va_A [(oS, .inr (5, [.ref rS_worths, .ref rS_order, .ref rS_left])), (rS_order, .inl (kS_order, 72, .inl fS_order)), (oC, .inr (1, [.int iC_nodes, .int iC_words, .int iC_chances, .int iC_unsures, .int iC_slips, .int iC_throneNode, .int iC_saidWorth, .int iC_unit, .ref rC_kind, .ref rC_parts, .ref rC_partNodes, .ref rC_weights, .ref rC_weightSums, .ref rC_toldWorths, .ref rC_steps, .ref rC_below, .ref rC_above, .ref rC_unsureWords, .ref rC_unsureWorths])), (rC_partNodes, .inl (kC_partNodes, 72, .inl fC_partNodes))] sz)) 0 0 (va_A [(oS, .inr (5, [.ref rS_worths, .ref rS_order, .ref rS_left])), (rS_order, .inl (kS_order, 72, .inl fS_order)), (oC, .inr (1, [.int iC_nodes, .int iC_words, .int iC_chances, .int iC_unsures, .int iC_slips, .int iC_throneNode, .int iC_saidWorth, .int iC_unit, .ref rC_kind, .ref rC_parts, .ref rC_partNodes, .ref rC_weights, .ref rC_weightSums, .ref rC_toldWorths, .ref rC_steps, .ref rC_below, .ref rC_above, .ref rC_unsureWords, .ref rC_unsureWorths])), (rC_partNodes, .inl (kC_partNodes, 72, .inl fC_partNodes))] sz) := by
  refine Met.ofW (cc := cX5_partAt) (maxL := 4) (ret := (some .int)) (by decide) rfl ?_
  intro p e s m args below meth c s₁ B hml hv
  obtain ⟨rfl, hsz, hP, hK, hD0, hE⟩ := hv
  have hx := B.exec
  have hb := B.bytes
  have hr := B.returns
  have hts : ∀ w ∈ wG, w.before ([.ref oS, .ref oC, .int p0, .int p1] : List Value).toArray s = true := fun w h => atoms_spec (ws := Cond.code yX5_partAt cX5_partAt 4 (some .int) :: wG) B.pre w (List.mem_cons_of_mem _ h)
  have hown : s.vm.findClass RX5 = some m.cls := findClass_of_methodNamed B.named
  have hlocks := B.notSynchronized
  subst hsz
  have hD := hD0.self (sz := s.heap.size)
  generalize hAe : va_A [(oS, .inr (5, [.ref rS_worths, .ref rS_order, .ref rS_left])), (rS_order, .inl (kS_order, 72, .inl fS_order)), (oC, .inr (1, [.int iC_nodes, .int iC_words, .int iC_chances, .int iC_unsures, .int iC_slips, .int iC_throneNode, .int iC_saidWorth, .int iC_unit, .ref rC_kind, .ref rC_parts, .ref rC_partNodes, .ref rC_weights, .ref rC_weightSums, .ref rC_toldWorths, .ref rC_steps, .ref rC_below, .ref rC_above, .ref rC_unsureWords, .ref rC_unsureWorths])), (rC_partNodes, .inl (kC_partNodes, 72, .inl fC_partNodes))] s.heap.size = A at hD hE ⊢
  have hA : ∀ q : Nat, s.heap.size ≤ q → A q := fun q h => by rw [← hAe]; exact Or.inr h
  have hS : va_S A s.heap s.heap [] := va_S.rf
  have hl := lv_entry ([.ref oS, .ref oC, .int p0, .int p1]) (n := 4) (Nat.le_of_ble_eq_true rfl)
  rw [lg_entry_eq]
  generalize (lg_sl ([.ref oS, .ref oC, .int p0, .int p1]) ++ List.replicate (4 - (lg_sl ([.ref oS, .ref oC, .int p0, .int p1])).length) Slot.unset).toArray = ls at hl ⊢
  have hl : lv_has ls 4 [(0, .ref oS), (1, .ref oC), (2, .int p0), (3, .int p1)] := hl
  have rg_p0 := fb_rng p0
  have rg_p1 := fb_rng p1
  refine lv_aload_n hx hb dX5_partAt_0 rfl (lv_at hl 1 rfl) ?_
  refine va_get (D := (dC, dI)) (ci := 1) (v := .ref rC_partNodes) (C := RX1) (T := TX1) (N := 19) hx hb hts inX1 hown hK hP 2 rfl rfl 10 (by decide) (hts _ wd_572) (fun _ h9 => h9) rfl dX5_partAt_1 ?_
  refine lv_iload_n hx hb dX5_partAt_4 rfl (lv_at hl 2 rfl) ?_
  refine lv_iconst (v := 4) hx hb dX5_partAt_5 (by decide) ?_
  refine lv_imul hx hb dX5_partAt_6 ?_
  refine lv_topi (fun x_419 ex_419 => ?_)
  have vx_419 : x_419.toInt = 4 * p0.toInt := by have q := ti_mul ex_419 rfl kc_4 (by omega) (by omega); omega
  refine lv_aload_n hx hb dX5_partAt_7 rfl (lv_at hl 0 rfl) ?_
  refine va_get (D := (dC, dI)) (ci := 5) (v := .ref rS_order) (C := RX5) (T := TX5) (N := 3) hx hb hts inX5 hown hK hP 0 rfl rfl 1 (by decide) (hts _ wd_129) (fun _ h9 => h9) rfl dX5_partAt_8 ?_
  refine lv_iload_n hx hb dX5_partAt_11 rfl (lv_at hl 2 rfl) ?_
  refine lv_iconst (v := 4) hx hb dX5_partAt_12 (by decide) ?_
  refine lv_imul hx hb dX5_partAt_13 ?_
  refine lv_topi (fun x_420 ex_420 => ?_)
  have vx_420 : x_420.toInt = 4 * p0.toInt := by have q := ti_mul ex_420 rfl kc_4 (by omega) (by omega); omega
  refine lv_iload_n hx hb dX5_partAt_14 rfl (lv_at hl 3 rfl) ?_
  refine lv_iadd hx hb dX5_partAt_15 ?_
  refine lv_topi (fun x_421 ex_421 => ?_)
  have vx_421 : x_421.toInt = 4 * p0.toInt + p1.toInt := by have q := ti_add ex_421 vx_420 rfl (by omega) (by omega); omega
  refine va_iald hx hb hK hP 1 0 rfl rfl (ti_in vx_421 (by omega) (by omega)) dX5_partAt_16 ?_
  refine lv_topi (fun x_422 ex_422 => ?_)
  have rg_x_422 := fb_rng x_422
  have kx_422 : (fS_order x_421.toNatClampNeg).toInt = x_422.toInt := by rw [ex_422]
  have ux_422 := a_fS_order _ (by have q := ti_cl (x := x_421) vx_421 (by omega); omega : x_421.toNatClampNeg < 72)
  rw [show fS_order x_421.toNatClampNeg = x_422 from ex_422.symm] at ux_422
  refine lv_iadd hx hb dX5_partAt_17 ?_
  refine lv_topi (fun x_423 ex_423 => ?_)
  have vx_423 : x_423.toInt = 4 * p0.toInt + x_422.toInt := by have q := ti_add ex_423 vx_419 rfl (by omega) (by omega); omega
  refine va_iald hx hb hK hP 3 1 rfl rfl (ti_in vx_423 (by omega) (by omega)) dX5_partAt_18 ?_
  refine lv_topi (fun x_424 ex_424 => ?_)
  have rg_x_424 := fb_rng x_424
  have kx_424 : (fC_partNodes x_423.toNatClampNeg).toInt = x_424.toInt := by rw [ex_424]
  have ux_424 := a_fC_partNodes _ (by have q := ti_cl (x := x_423) vx_423 (by omega); omega : x_423.toNatClampNeg < 72)
  rw [show fC_partNodes x_423.toNatClampNeg = x_424 from ex_424.symm] at ux_424
  have hP9 := hP.sub (ws' := [(oS, .inr (5, [.ref rS_worths, .ref rS_order, .ref rS_left])), (rS_order, .inl (kS_order, 72, .inl fS_order)), (oC, .inr (1, [.int iC_nodes, .int iC_words, .int iC_chances, .int iC_unsures, .int iC_slips, .int iC_throneNode, .int iC_saidWorth, .int iC_unit, .ref rC_kind, .ref rC_parts, .ref rC_partNodes, .ref rC_weights, .ref rC_weightSums, .ref rC_toldWorths, .ref rC_steps, .ref rC_below, .ref rC_above, .ref rC_unsureWords, .ref rC_unsureWorths])), (rC_partNodes, .inl (kC_partNodes, 72, .inl fC_partNodes))]) [0, 1, 2, 3] rfl
  have hD9 := hD.sub (ws' := [(oS, .inr (5, [.ref rS_worths, .ref rS_order, .ref rS_left])), (rS_order, .inl (kS_order, 72, .inl fS_order)), (oC, .inr (1, [.int iC_nodes, .int iC_words, .int iC_chances, .int iC_unsures, .int iC_slips, .int iC_throneNode, .int iC_saidWorth, .int iC_unit, .ref rC_kind, .ref rC_parts, .ref rC_partNodes, .ref rC_weights, .ref rC_weightSums, .ref rC_toldWorths, .ref rC_steps, .ref rC_below, .ref rC_above, .ref rC_unsureWords, .ref rC_unsureWorths])), (rC_partNodes, .inl (kC_partNodes, 72, .inl fC_partNodes))]) [0, 1, 2, 3] (by decide) rfl
  have hK9 := hK.sub (tys' := [(kS_order, .int), (kC_partNodes, .int)]) [0, 1] rfl
  exact W.iret hx hb hr (fun t ht hW => ⟨⟨_, 0, rfl, ⟨trivial, (by omega)⟩, Bw.to hP9 hD9 hK9 ht hW⟩, hS.F ht⟩) hS.2.2 dX5_partAt_19
set_option maxHeartbeats 4000000 in
set_option maxRecDepth 100000 in
theorem tX5_weightAt (l : Launch) (dC : Nat → ClassId) (dI : Nat → Nat → Nat) (sz : Nat) (oS : Nat) (rS_worths : Nat) (rS_order : Nat) (fS_order : Nat → Int32) (kS_order : ClassId) (rS_left : Nat) (oC : Nat) (iC_nodes : Int32) (iC_words : Int32) (iC_chances : Int32) (iC_unsures : Int32) (iC_slips : Int32) (iC_throneNode : Int32) (iC_saidWorth : Int32) (iC_unit : Int32) (rC_kind : Nat) (rC_parts : Nat) (rC_partNodes : Nat) (rC_weights : Nat) (fC_weights : Nat → Int32) (kC_weights : ClassId) (rC_weightSums : Nat) (rC_toldWorths : Nat) (rC_steps : Nat) (rC_below : Nat) (rC_above : Nat) (rC_unsureWords : Nat) (rC_unsureWorths : Nat) (p0 : Int32) (p1 : Int32) (a_fS_order : ∀ j : Nat, j < 72 → 0 ≤ (fS_order j).toInt ∧ (fS_order j).toInt ≤ 3) (b_iC_nodes : 0 ≤ iC_nodes.toInt ∧ iC_nodes.toInt ≤ 18) (b_iC_unsures : 0 ≤ iC_unsures.toInt ∧ iC_unsures.toInt ≤ 4) (b_iC_throneNode : (-1) ≤ iC_throneNode.toInt ∧ iC_throneNode.toInt ≤ 17) (hp0 : 0 ≤ p0.toInt ∧ p0.toInt ≤ 17) (hp1 : 0 ≤ p1.toInt ∧ p1.toInt ≤ 3) : Met l yX5_weightAt (Cond.code yX5_weightAt cX5_weightAt 4 (some .int) :: wG) ({ frames := 0, cells := 0, slots := 0, locals := 0 }) (va_Pc [.ref oS, .ref oC, .int p0, .int p1] (Pw dC dI sz [(oS, .inr (5, [.ref rS_worths, .ref rS_order, .ref rS_left])), (rS_order, .inl (kS_order, 72, .inl fS_order)), (oC, .inr (1, [.int iC_nodes, .int iC_words, .int iC_chances, .int iC_unsures, .int iC_slips, .int iC_throneNode, .int iC_saidWorth, .int iC_unit, .ref rC_kind, .ref rC_parts, .ref rC_partNodes, .ref rC_weights, .ref rC_weightSums, .ref rC_toldWorths, .ref rC_steps, .ref rC_below, .ref rC_above, .ref rC_unsureWords, .ref rC_unsureWorths])), (rC_weights, .inl (kC_weights, 72, .inl fC_weights))] [(kS_order, .int), (kC_weights, .int)])) (va_Qi (fun (r : Int32) (_ : Nat) => True ∧ True) (fun (_ : Nat) (t : State) => Bw dC dI (va_A [(oS, .inr (5, [.ref rS_worths, .ref rS_order, .ref rS_left])), (rS_order, .inl (kS_order, 72, .inl fS_order)), (oC, .inr (1, [.int iC_nodes, .int iC_words, .int iC_chances, .int iC_unsures, .int iC_slips, .int iC_throneNode, .int iC_saidWorth, .int iC_unit, .ref rC_kind, .ref rC_parts, .ref rC_partNodes, .ref rC_weights, .ref rC_weightSums, .ref rC_toldWorths, .ref rC_steps, .ref rC_below, .ref rC_above, .ref rC_unsureWords, .ref rC_unsureWorths])), (rC_weights, .inl (kC_weights, 72, .inl fC_weights))] sz) [(oS, .inr (5, [.ref rS_worths, .ref rS_order, .ref rS_left])), (rS_order, .inl (kS_order, 72, .inl fS_order)), (oC, .inr (1, [.int iC_nodes, .int iC_words, .int iC_chances, .int iC_unsures, .int iC_slips, .int iC_throneNode, .int iC_saidWorth, .int iC_unit, .ref rC_kind, .ref rC_parts, .ref rC_partNodes, .ref rC_weights, .ref rC_weightSums, .ref rC_toldWorths, .ref rC_steps, .ref rC_below, .ref rC_above, .ref rC_unsureWords, .ref rC_unsureWorths])), (rC_weights, .inl (kC_weights, 72, .inl fC_weights))] [(kS_order, .int), (kC_weights, .int)] t) (va_A [(oS, .inr (5, [.ref rS_worths, .ref rS_order, .ref rS_left])), (rS_order, .inl (kS_order, 72, .inl fS_order)), (oC, .inr (1, [.int iC_nodes, .int iC_words, .int iC_chances, .int iC_unsures, .int iC_slips, .int iC_throneNode, .int iC_saidWorth, .int iC_unit, .ref rC_kind, .ref rC_parts, .ref rC_partNodes, .ref rC_weights, .ref rC_weightSums, .ref rC_toldWorths, .ref rC_steps, .ref rC_below, .ref rC_above, .ref rC_unsureWords, .ref rC_unsureWorths])), (rC_weights, .inl (kC_weights, 72, .inl fC_weights))] sz)) 0 0 (va_A [(oS, .inr (5, [.ref rS_worths, .ref rS_order, .ref rS_left])), (rS_order, .inl (kS_order, 72, .inl fS_order)), (oC, .inr (1, [.int iC_nodes, .int iC_words, .int iC_chances, .int iC_unsures, .int iC_slips, .int iC_throneNode, .int iC_saidWorth, .int iC_unit, .ref rC_kind, .ref rC_parts, .ref rC_partNodes, .ref rC_weights, .ref rC_weightSums, .ref rC_toldWorths, .ref rC_steps, .ref rC_below, .ref rC_above, .ref rC_unsureWords, .ref rC_unsureWorths])), (rC_weights, .inl (kC_weights, 72, .inl fC_weights))] sz) := by
  refine Met.ofW (cc := cX5_weightAt) (maxL := 4) (ret := (some .int)) (by decide) rfl ?_
  intro p e s m args below meth c s₁ B hml hv
  obtain ⟨rfl, hsz, hP, hK, hD0, hE⟩ := hv
  have hx := B.exec
  have hb := B.bytes
  have hr := B.returns
  have hts : ∀ w ∈ wG, w.before ([.ref oS, .ref oC, .int p0, .int p1] : List Value).toArray s = true := fun w h => atoms_spec (ws := Cond.code yX5_weightAt cX5_weightAt 4 (some .int) :: wG) B.pre w (List.mem_cons_of_mem _ h)
  have hown : s.vm.findClass RX5 = some m.cls := findClass_of_methodNamed B.named
  have hlocks := B.notSynchronized
  subst hsz
  have hD := hD0.self (sz := s.heap.size)
  generalize hAe : va_A [(oS, .inr (5, [.ref rS_worths, .ref rS_order, .ref rS_left])), (rS_order, .inl (kS_order, 72, .inl fS_order)), (oC, .inr (1, [.int iC_nodes, .int iC_words, .int iC_chances, .int iC_unsures, .int iC_slips, .int iC_throneNode, .int iC_saidWorth, .int iC_unit, .ref rC_kind, .ref rC_parts, .ref rC_partNodes, .ref rC_weights, .ref rC_weightSums, .ref rC_toldWorths, .ref rC_steps, .ref rC_below, .ref rC_above, .ref rC_unsureWords, .ref rC_unsureWorths])), (rC_weights, .inl (kC_weights, 72, .inl fC_weights))] s.heap.size = A at hD hE ⊢
  have hA : ∀ q : Nat, s.heap.size ≤ q → A q := fun q h => by rw [← hAe]; exact Or.inr h
  have hS : va_S A s.heap s.heap [] := va_S.rf
  have hl := lv_entry ([.ref oS, .ref oC, .int p0, .int p1]) (n := 4) (Nat.le_of_ble_eq_true rfl)
  rw [lg_entry_eq]
  generalize (lg_sl ([.ref oS, .ref oC, .int p0, .int p1]) ++ List.replicate (4 - (lg_sl ([.ref oS, .ref oC, .int p0, .int p1])).length) Slot.unset).toArray = ls at hl ⊢
  have hl : lv_has ls 4 [(0, .ref oS), (1, .ref oC), (2, .int p0), (3, .int p1)] := hl
  have rg_p0 := fb_rng p0
  have rg_p1 := fb_rng p1
  refine lv_aload_n hx hb dX5_weightAt_0 rfl (lv_at hl 1 rfl) ?_
  refine va_get (D := (dC, dI)) (ci := 1) (v := .ref rC_weights) (C := RX1) (T := TX1) (N := 19) hx hb hts inX1 hown hK hP 2 rfl rfl 11 (by decide) (hts _ wd_755) (fun _ h9 => h9) rfl dX5_weightAt_1 ?_
  refine lv_iload_n hx hb dX5_weightAt_4 rfl (lv_at hl 2 rfl) ?_
  refine lv_iconst (v := 4) hx hb dX5_weightAt_5 (by decide) ?_
  refine lv_imul hx hb dX5_weightAt_6 ?_
  refine lv_topi (fun x_431 ex_431 => ?_)
  have vx_431 : x_431.toInt = 4 * p0.toInt := by have q := ti_mul ex_431 rfl kc_4 (by omega) (by omega); omega
  refine lv_aload_n hx hb dX5_weightAt_7 rfl (lv_at hl 0 rfl) ?_
  refine va_get (D := (dC, dI)) (ci := 5) (v := .ref rS_order) (C := RX5) (T := TX5) (N := 3) hx hb hts inX5 hown hK hP 0 rfl rfl 1 (by decide) (hts _ wd_129) (fun _ h9 => h9) rfl dX5_weightAt_8 ?_
  refine lv_iload_n hx hb dX5_weightAt_11 rfl (lv_at hl 2 rfl) ?_
  refine lv_iconst (v := 4) hx hb dX5_weightAt_12 (by decide) ?_
  refine lv_imul hx hb dX5_weightAt_13 ?_
  refine lv_topi (fun x_432 ex_432 => ?_)
  have vx_432 : x_432.toInt = 4 * p0.toInt := by have q := ti_mul ex_432 rfl kc_4 (by omega) (by omega); omega
  refine lv_iload_n hx hb dX5_weightAt_14 rfl (lv_at hl 3 rfl) ?_
  refine lv_iadd hx hb dX5_weightAt_15 ?_
  refine lv_topi (fun x_433 ex_433 => ?_)
  have vx_433 : x_433.toInt = 4 * p0.toInt + p1.toInt := by have q := ti_add ex_433 vx_432 rfl (by omega) (by omega); omega
  refine va_iald hx hb hK hP 1 0 rfl rfl (ti_in vx_433 (by omega) (by omega)) dX5_weightAt_16 ?_
  refine lv_topi (fun x_434 ex_434 => ?_)
  have rg_x_434 := fb_rng x_434
  have kx_434 : (fS_order x_433.toNatClampNeg).toInt = x_434.toInt := by rw [ex_434]
  have ux_434 := a_fS_order _ (by have q := ti_cl (x := x_433) vx_433 (by omega); omega : x_433.toNatClampNeg < 72)
  rw [show fS_order x_433.toNatClampNeg = x_434 from ex_434.symm] at ux_434
  refine lv_iadd hx hb dX5_weightAt_17 ?_
  refine lv_topi (fun x_435 ex_435 => ?_)
  have vx_435 : x_435.toInt = 4 * p0.toInt + x_434.toInt := by have q := ti_add ex_435 vx_431 rfl (by omega) (by omega); omega
  refine va_iald hx hb hK hP 3 1 rfl rfl (ti_in vx_435 (by omega) (by omega)) dX5_weightAt_18 ?_
  refine lv_topi (fun x_436 ex_436 => ?_)
  have rg_x_436 := fb_rng x_436
  have kx_436 : (fC_weights x_435.toNatClampNeg).toInt = x_436.toInt := by rw [ex_436]
  have hP9 := hP.sub (ws' := [(oS, .inr (5, [.ref rS_worths, .ref rS_order, .ref rS_left])), (rS_order, .inl (kS_order, 72, .inl fS_order)), (oC, .inr (1, [.int iC_nodes, .int iC_words, .int iC_chances, .int iC_unsures, .int iC_slips, .int iC_throneNode, .int iC_saidWorth, .int iC_unit, .ref rC_kind, .ref rC_parts, .ref rC_partNodes, .ref rC_weights, .ref rC_weightSums, .ref rC_toldWorths, .ref rC_steps, .ref rC_below, .ref rC_above, .ref rC_unsureWords, .ref rC_unsureWorths])), (rC_weights, .inl (kC_weights, 72, .inl fC_weights))]) [0, 1, 2, 3] rfl
  have hD9 := hD.sub (ws' := [(oS, .inr (5, [.ref rS_worths, .ref rS_order, .ref rS_left])), (rS_order, .inl (kS_order, 72, .inl fS_order)), (oC, .inr (1, [.int iC_nodes, .int iC_words, .int iC_chances, .int iC_unsures, .int iC_slips, .int iC_throneNode, .int iC_saidWorth, .int iC_unit, .ref rC_kind, .ref rC_parts, .ref rC_partNodes, .ref rC_weights, .ref rC_weightSums, .ref rC_toldWorths, .ref rC_steps, .ref rC_below, .ref rC_above, .ref rC_unsureWords, .ref rC_unsureWorths])), (rC_weights, .inl (kC_weights, 72, .inl fC_weights))]) [0, 1, 2, 3] (by decide) rfl
  have hK9 := hK.sub (tys' := [(kS_order, .int), (kC_weights, .int)]) [0, 1] rfl
  exact W.iret hx hb hr (fun t ht hW => ⟨⟨_, 0, rfl, ⟨trivial, trivial⟩, Bw.to hP9 hD9 hK9 ht hW⟩, hS.F ht⟩) hS.2.2 dX5_weightAt_19
set_option maxHeartbeats 4000000 in
set_option maxRecDepth 100000 in
theorem tX5_bringFirst (l : Launch) (dC : Nat → ClassId) (dI : Nat → Nat → Nat) (sz : Nat) (oS : Nat) (rS_worths : Nat) (rS_order : Nat) (fS_order : Nat → Int32) (kS_order : ClassId) (rS_left : Nat) (p0 : Int32) (p1 : Int32) (a_fS_order : ∀ j : Nat, j < 72 → 0 ≤ (fS_order j).toInt ∧ (fS_order j).toInt ≤ 3) (hp0 : 0 ≤ p0.toInt ∧ p0.toInt ≤ 17) (hp1 : 0 ≤ p1.toInt ∧ p1.toInt ≤ 3) : Met l yX5_bringFirst (Cond.code yX5_bringFirst cX5_bringFirst 6 none :: wG) ({ frames := 0, cells := 0, slots := 0, locals := 0 }) (va_Pc [.ref oS, .int p0, .int p1] (Pw dC dI sz [(oS, .inr (5, [.ref rS_worths, .ref rS_order, .ref rS_left])), (rS_order, .inl (kS_order, 72, .inl fS_order))] [(kS_order, .int)])) (va_Qv (fun (_ : Nat) => True) (fun (_ : Nat) (t : State) => ∃ (nfS_order : Nat → Int32), (∀ j : Nat, j < 72 → 0 ≤ (nfS_order j).toInt ∧ (nfS_order j).toInt ≤ 3) ∧ Bw dC dI (va_A [(oS, .inr (5, [.ref rS_worths, .ref rS_order, .ref rS_left])), (rS_order, .inl (kS_order, 72, .inl fS_order))] sz) [(oS, .inr (5, [.ref rS_worths, .ref rS_order, .ref rS_left])), (rS_order, .inl (kS_order, 72, .inl nfS_order))] [(kS_order, .int)] t) (va_A [(oS, .inr (5, [.ref rS_worths, .ref rS_order, .ref rS_left])), (rS_order, .inl (kS_order, 72, .inl fS_order))] sz)) 0 0 (va_A [(oS, .inr (5, [.ref rS_worths, .ref rS_order, .ref rS_left])), (rS_order, .inl (kS_order, 72, .inl fS_order))] sz) := by
  refine Met.ofW (cc := cX5_bringFirst) (maxL := 6) (ret := none) (by decide) rfl ?_
  intro p e s m args below meth c s₁ B hml hv
  obtain ⟨rfl, hsz, hP, hK, hD0, hE⟩ := hv
  have hx := B.exec
  have hb := B.bytes
  have hr := B.returns
  have hts : ∀ w ∈ wG, w.before ([.ref oS, .int p0, .int p1] : List Value).toArray s = true := fun w h => atoms_spec (ws := Cond.code yX5_bringFirst cX5_bringFirst 6 none :: wG) B.pre w (List.mem_cons_of_mem _ h)
  have hown : s.vm.findClass RX5 = some m.cls := findClass_of_methodNamed B.named
  have hlocks := B.notSynchronized
  subst hsz
  have hD := hD0.self (sz := s.heap.size)
  generalize hAe : va_A [(oS, .inr (5, [.ref rS_worths, .ref rS_order, .ref rS_left])), (rS_order, .inl (kS_order, 72, .inl fS_order))] s.heap.size = A at hD hE ⊢
  have hA : ∀ q : Nat, s.heap.size ≤ q → A q := fun q h => by rw [← hAe]; exact Or.inr h
  have hS : va_S A s.heap s.heap [] := va_S.rf
  have hl := lv_entry ([.ref oS, .int p0, .int p1]) (n := 6) (Nat.le_of_ble_eq_true rfl)
  rw [lg_entry_eq]
  generalize (lg_sl ([.ref oS, .int p0, .int p1]) ++ List.replicate (6 - (lg_sl ([.ref oS, .int p0, .int p1])).length) Slot.unset).toArray = ls at hl ⊢
  have hl : lv_has ls 6 [(0, .ref oS), (1, .int p0), (2, .int p1)] := hl
  have rg_p0 := fb_rng p0
  have rg_p1 := fb_rng p1
  refine lv_iload_n hx hb dX5_bringFirst_0 rfl (lv_at hl 1 rfl) ?_
  refine lv_iconst (v := 4) hx hb dX5_bringFirst_1 (by decide) ?_
  refine lv_imul hx hb dX5_bringFirst_2 ?_
  refine lv_topi (fun x_464 ex_464 => ?_)
  have vx_464 : x_464.toInt = 4 * p0.toInt := by have q := ti_mul ex_464 rfl kc_4 (by omega) (by omega); omega
  refine lv_istore_n (lv' := [(3, .int x_464), (0, .ref oS), (1, .int p0), (2, .int p1)]) hx hb dX5_bringFirst_3 rfl hl (by decide) rfl (fun ls hl => ?_)
  refine lv_aload_n hx hb dX5_bringFirst_4 rfl (lv_at hl 1 rfl) ?_
  refine va_get (D := (dC, dI)) (ci := 5) (v := .ref rS_order) (C := RX5) (T := TX5) (N := 3) hx hb hts inX5 hown hK hP 0 rfl rfl 1 (by decide) (hts _ wd_129) (fun _ h9 => h9) rfl dX5_bringFirst_5 ?_
  refine lv_iload_n hx hb dX5_bringFirst_8 rfl (lv_at hl 0 rfl) ?_
  refine lv_iload_n hx hb dX5_bringFirst_9 rfl (lv_at hl 3 rfl) ?_
  refine lv_iadd hx hb dX5_bringFirst_10 ?_
  refine lv_topi (fun x_465 ex_465 => ?_)
  have vx_465 : x_465.toInt = 4 * p0.toInt + p1.toInt := by have q := ti_add ex_465 vx_464 rfl (by omega) (by omega); omega
  refine va_iald hx hb hK hP 1 0 rfl rfl (ti_in vx_465 (by omega) (by omega)) dX5_bringFirst_11 ?_
  refine lv_topi (fun x_466 ex_466 => ?_)
  have rg_x_466 := fb_rng x_466
  have kx_466 : (fS_order x_465.toNatClampNeg).toInt = x_466.toInt := by rw [ex_466]
  have ux_466 := a_fS_order _ (by have q := ti_cl (x := x_465) vx_465 (by omega); omega : x_465.toNatClampNeg < 72)
  rw [show fS_order x_465.toNatClampNeg = x_466 from ex_466.symm] at ux_466
  refine lv_istore (lv' := [(4, .int x_466), (3, .int x_464), (0, .ref oS), (1, .int p0), (2, .int p1)]) hx hb dX5_bringFirst_12 hl (by decide) rfl (fun ls hl => ?_)
  refine lv_iload_n hx hb dX5_bringFirst_14 rfl (lv_at hl 4 rfl) ?_
  refine lv_istore (lv' := [(5, .int p1), (4, .int x_466), (3, .int x_464), (0, .ref oS), (1, .int p0), (2, .int p1)]) hx hb dX5_bringFirst_15 hl (by decide) rfl (fun ls hl => ?_)
  have hl := lv_sub hl (l' := [(5, .int p1), (4, .int x_466), (3, .int x_464), (0, .ref oS), (1, .int p0), (2, .int p1)]) [0, 1, 2, 3, 4, 5] rfl
  have key_n_469 : ∀ (n_469 : Nat) (z_467 : Int32) (f_468 : Nat → Int32) (H : Heap) (locs : List Loc) (ls : Array Slot), (∀ j : Nat, j < 72 → 0 ≤ (f_468 j).toInt ∧ (f_468 j).toInt ≤ 3) → (0 ≤ z_467.toInt ∧ z_467.toInt ≤ 3) → (z_467.toInt - 0).toNat < n_469 → va_P (dC, dI) vwCl [(oS, .inr (5, [.ref rS_worths, .ref rS_order, .ref rS_left])), (rS_order, .inl (kS_order, 72, .inl f_468))] H → va_D A [(oS, .inr (5, [.ref rS_worths, .ref rS_order, .ref rS_left])), (rS_order, .inl (kS_order, 72, .inl f_468))] → va_S A s.heap H locs → lv_has ls 6 [(5, .int z_467), (4, .int x_466), (3, .int x_464), (0, .ref oS), (1, .int p0), (2, .int p1)] → W p l e (headSpec (Cond.code yX5_bringFirst cX5_bringFirst 6 none :: wG) ({ frames := 0, cells := 0, slots := 0, locals := 0 })).room s m ([.ref oS, .int p0, .int p1] : List Value).toArray below meth c H locs 0 0 (MQ below (va_Qv (fun (_ : Nat) => True) (fun (_ : Nat) (t : State) => ∃ (nfS_order : Nat → Int32), (∀ j : Nat, j < 72 → 0 ≤ (nfS_order j).toInt ∧ (nfS_order j).toInt ≤ 3) ∧ Bw dC dI A [(oS, .inr (5, [.ref rS_worths, .ref rS_order, .ref rS_left])), (rS_order, .inl (kS_order, 72, .inl nfS_order))] [(kS_order, .int)] t) A) ([.ref oS, .int p0, .int p1] : List Value).toArray s 0 0 A) (F0 m 17 ls []) := by
    intro n_469
    induction n_469 with
    | zero => intro z_467 f_468 H locs ls a_f_468 hi0_n_469 hm; exact absurd hm (by omega)
    | succ n_469 ih_n_469 =>
      intro z_467 f_468 H locs ls a_f_468 hi0_n_469 hm hP hD hS hl
      have rg_z_467 := fb_rng z_467
      refine lv_iload hx hb dX5_bringFirst_17 (lv_at hl 0 rfl) ?_
      refine lv_if_le (tgt := 48) hx hb dX5_bringFirst_19 (by decide) (fun c_470 => ?_) (fun c_470 => ?_)
      · skip
        have gc_470 := ti_le c_470 rfl kc_0
        refine lv_aload_n hx hb dX5_bringFirst_48 rfl (lv_at hl 3 rfl) ?_
        refine va_get (D := (dC, dI)) (ci := 5) (v := .ref rS_order) (C := RX5) (T := TX5) (N := 3) hx hb hts inX5 hown hK hP 0 rfl rfl 1 (by decide) (hts _ wd_129) (fun _ h9 => h9) rfl dX5_bringFirst_49 ?_
        refine lv_iload_n hx hb dX5_bringFirst_52 rfl (lv_at hl 2 rfl) ?_
        refine lv_iload hx hb dX5_bringFirst_53 (lv_at hl 1 rfl) ?_
        refine vi_iast (lo := 0) (hi := 3) hx hb hK hP hD hS 1 0 rfl rfl (ti_in vx_464 (by omega) (by omega)) a_f_468 (by omega) dX5_bringFirst_55 (fun H locs f_471 a_f_471 hP hD hS => ?_)
        have hP : va_P (dC, dI) vwCl [(oS, .inr (5, [.ref rS_worths, .ref rS_order, .ref rS_left])), (rS_order, .inl (kS_order, 72, .inl f_471))] H := hP
        have hD : va_D A [(oS, .inr (5, [.ref rS_worths, .ref rS_order, .ref rS_left])), (rS_order, .inl (kS_order, 72, .inl f_471))] := hD
        have hP9 := hP.sub (ws' := [(oS, .inr (5, [.ref rS_worths, .ref rS_order, .ref rS_left])), (rS_order, .inl (kS_order, 72, .inl f_471))]) [0, 1] rfl
        have hD9 := hD.sub (ws' := [(oS, .inr (5, [.ref rS_worths, .ref rS_order, .ref rS_left])), (rS_order, .inl (kS_order, 72, .inl f_471))]) [0, 1] (by decide) rfl
        have hK9 := hK.sub (tys' := [(kS_order, .int)]) [0] rfl
        exact W.vret hx hb hr (fun t ht hW => ⟨⟨0, rfl, trivial, ⟨f_471, a_f_471, Bw.to hP9 hD9 hK9 ht hW⟩⟩, hS.F ht⟩) hS.2.2 dX5_bringFirst_56
      · skip
        have gc_470 := ti_nle c_470 rfl kc_0
        refine lv_aload_n hx hb dX5_bringFirst_22 rfl (lv_at hl 3 rfl) ?_
        refine va_get (D := (dC, dI)) (ci := 5) (v := .ref rS_order) (C := RX5) (T := TX5) (N := 3) hx hb hts inX5 hown hK hP 0 rfl rfl 1 (by decide) (hts _ wd_129) (fun _ h9 => h9) rfl dX5_bringFirst_23 ?_
        refine lv_iload_n hx hb dX5_bringFirst_26 rfl (lv_at hl 2 rfl) ?_
        refine lv_iload hx hb dX5_bringFirst_27 (lv_at hl 0 rfl) ?_
        refine lv_iadd hx hb dX5_bringFirst_29 ?_
        refine lv_topi (fun x_472 ex_472 => ?_)
        have vx_472 : x_472.toInt = 4 * p0.toInt + z_467.toInt := by have q := ti_add ex_472 vx_464 rfl (by omega) (by omega); omega
        refine lv_aload_n hx hb dX5_bringFirst_30 rfl (lv_at hl 3 rfl) ?_
        refine va_get (D := (dC, dI)) (ci := 5) (v := .ref rS_order) (C := RX5) (T := TX5) (N := 3) hx hb hts inX5 hown hK hP 0 rfl rfl 1 (by decide) (hts _ wd_129) (fun _ h9 => h9) rfl dX5_bringFirst_31 ?_
        refine lv_iload_n hx hb dX5_bringFirst_34 rfl (lv_at hl 2 rfl) ?_
        refine lv_iload hx hb dX5_bringFirst_35 (lv_at hl 0 rfl) ?_
        refine lv_iadd hx hb dX5_bringFirst_37 ?_
        refine lv_topi (fun x_473 ex_473 => ?_)
        have vx_473 : x_473.toInt = 4 * p0.toInt + z_467.toInt := by have q := ti_add ex_473 vx_464 rfl (by omega) (by omega); omega
        refine lv_iconst (v := 1) hx hb dX5_bringFirst_38 (by decide) ?_
        refine lv_isub hx hb dX5_bringFirst_39 ?_
        refine lv_topi (fun x_474 ex_474 => ?_)
        have vx_474 : x_474.toInt = 4 * p0.toInt + z_467.toInt + (-1) := by have q := ti_sub ex_474 vx_473 kc_1 (by omega) (by omega); omega
        refine va_iald hx hb hK hP 1 0 rfl rfl (ti_in vx_474 (by omega) (by omega)) dX5_bringFirst_40 ?_
        refine lv_topi (fun x_475 ex_475 => ?_)
        have rg_x_475 := fb_rng x_475
        have kx_475 : (f_468 x_474.toNatClampNeg).toInt = x_475.toInt := by rw [ex_475]
        have ux_475 := a_f_468 _ (by have q := ti_cl (x := x_474) vx_474 (by omega); omega : x_474.toNatClampNeg < 72)
        rw [show f_468 x_474.toNatClampNeg = x_475 from ex_475.symm] at ux_475
        refine vi_iast (lo := 0) (hi := 3) hx hb hK hP hD hS 1 0 rfl rfl (ti_in vx_472 (by omega) (by omega)) a_f_468 (by omega) dX5_bringFirst_41 (fun H locs f_476 a_f_476 hP hD hS => ?_)
        have hP : va_P (dC, dI) vwCl [(oS, .inr (5, [.ref rS_worths, .ref rS_order, .ref rS_left])), (rS_order, .inl (kS_order, 72, .inl f_476))] H := hP
        have hD : va_D A [(oS, .inr (5, [.ref rS_worths, .ref rS_order, .ref rS_left])), (rS_order, .inl (kS_order, 72, .inl f_476))] := hD
        obtain ⟨x_477, ex_477⟩ : ∃ z : Int32, z = z_467 + Int32.ofInt (-1) := ⟨_, rfl⟩
        have vx_477 : x_477.toInt = z_467.toInt + (-1) := by have q := ti_add (y := (-1)) ex_477 rfl kc_m1 (by omega) (by omega); omega
        refine lv_iinc (v := x_477) (lv' := [(5, .int x_477), (4, .int x_466), (3, .int x_464), (0, .ref oS), (1, .int p0), (2, .int p1)]) hx hb dX5_bringFirst_42 hl (k := 0) rfl ex_477.symm (by decide) rfl (fun ls hl => ?_)
        refine lv_goto (tgt := 17) hx hb dX5_bringFirst_45 (by decide) ?_
        exact ih_n_469 x_477 f_476 _ _ _ a_f_476 (by first | omega | decide | assumption) (by omega) (hP.sub [0, 1] rfl) (hD.sub [0, 1] (by decide) rfl) hS (lv_sub hl [0, 1, 2, 3, 4, 5] rfl)
  exact key_n_469 ((p1.toInt - 0).toNat + 1) p1 fS_order _ _ _ a_fS_order (by first | omega | decide | assumption | (have q0 := kc_0; have q1 := kc_1; omega)) (by omega) hP hD hS hl
set_option maxHeartbeats 4000000 in
set_option maxRecDepth 100000 in
theorem tX5_sendBack (l : Launch) (dC : Nat → ClassId) (dI : Nat → Nat → Nat) (sz : Nat) (oS : Nat) (rS_worths : Nat) (rS_order : Nat) (fS_order : Nat → Int32) (kS_order : ClassId) (rS_left : Nat) (p0 : Int32) (p1 : Int32) (a_fS_order : ∀ j : Nat, j < 72 → 0 ≤ (fS_order j).toInt ∧ (fS_order j).toInt ≤ 3) (hp0 : 0 ≤ p0.toInt ∧ p0.toInt ≤ 17) (hp1 : 0 ≤ p1.toInt ∧ p1.toInt ≤ 3) : Met l yX5_sendBack (Cond.code yX5_sendBack cX5_sendBack 6 none :: wG) ({ frames := 0, cells := 0, slots := 0, locals := 0 }) (va_Pc [.ref oS, .int p0, .int p1] (Pw dC dI sz [(oS, .inr (5, [.ref rS_worths, .ref rS_order, .ref rS_left])), (rS_order, .inl (kS_order, 72, .inl fS_order))] [(kS_order, .int)])) (va_Qv (fun (_ : Nat) => True) (fun (_ : Nat) (t : State) => ∃ (nfS_order : Nat → Int32), (∀ j : Nat, j < 72 → 0 ≤ (nfS_order j).toInt ∧ (nfS_order j).toInt ≤ 3) ∧ Bw dC dI (va_A [(oS, .inr (5, [.ref rS_worths, .ref rS_order, .ref rS_left])), (rS_order, .inl (kS_order, 72, .inl fS_order))] sz) [(oS, .inr (5, [.ref rS_worths, .ref rS_order, .ref rS_left])), (rS_order, .inl (kS_order, 72, .inl nfS_order))] [(kS_order, .int)] t) (va_A [(oS, .inr (5, [.ref rS_worths, .ref rS_order, .ref rS_left])), (rS_order, .inl (kS_order, 72, .inl fS_order))] sz)) 0 0 (va_A [(oS, .inr (5, [.ref rS_worths, .ref rS_order, .ref rS_left])), (rS_order, .inl (kS_order, 72, .inl fS_order))] sz) := by
  refine Met.ofW (cc := cX5_sendBack) (maxL := 6) (ret := none) (by decide) rfl ?_
  intro p e s m args below meth c s₁ B hml hv
  obtain ⟨rfl, hsz, hP, hK, hD0, hE⟩ := hv
  have hx := B.exec
  have hb := B.bytes
  have hr := B.returns
  have hts : ∀ w ∈ wG, w.before ([.ref oS, .int p0, .int p1] : List Value).toArray s = true := fun w h => atoms_spec (ws := Cond.code yX5_sendBack cX5_sendBack 6 none :: wG) B.pre w (List.mem_cons_of_mem _ h)
  have hown : s.vm.findClass RX5 = some m.cls := findClass_of_methodNamed B.named
  have hlocks := B.notSynchronized
  subst hsz
  have hD := hD0.self (sz := s.heap.size)
  generalize hAe : va_A [(oS, .inr (5, [.ref rS_worths, .ref rS_order, .ref rS_left])), (rS_order, .inl (kS_order, 72, .inl fS_order))] s.heap.size = A at hD hE ⊢
  have hA : ∀ q : Nat, s.heap.size ≤ q → A q := fun q h => by rw [← hAe]; exact Or.inr h
  have hS : va_S A s.heap s.heap [] := va_S.rf
  have hl := lv_entry ([.ref oS, .int p0, .int p1]) (n := 6) (Nat.le_of_ble_eq_true rfl)
  rw [lg_entry_eq]
  generalize (lg_sl ([.ref oS, .int p0, .int p1]) ++ List.replicate (6 - (lg_sl ([.ref oS, .int p0, .int p1])).length) Slot.unset).toArray = ls at hl ⊢
  have hl : lv_has ls 6 [(0, .ref oS), (1, .int p0), (2, .int p1)] := hl
  have rg_p0 := fb_rng p0
  have rg_p1 := fb_rng p1
  refine lv_iload_n hx hb dX5_sendBack_0 rfl (lv_at hl 1 rfl) ?_
  refine lv_iconst (v := 4) hx hb dX5_sendBack_1 (by decide) ?_
  refine lv_imul hx hb dX5_sendBack_2 ?_
  refine lv_topi (fun x_505 ex_505 => ?_)
  have vx_505 : x_505.toInt = 4 * p0.toInt := by have q := ti_mul ex_505 rfl kc_4 (by omega) (by omega); omega
  refine lv_istore_n (lv' := [(3, .int x_505), (0, .ref oS), (1, .int p0), (2, .int p1)]) hx hb dX5_sendBack_3 rfl hl (by decide) rfl (fun ls hl => ?_)
  refine lv_aload_n hx hb dX5_sendBack_4 rfl (lv_at hl 1 rfl) ?_
  refine va_get (D := (dC, dI)) (ci := 5) (v := .ref rS_order) (C := RX5) (T := TX5) (N := 3) hx hb hts inX5 hown hK hP 0 rfl rfl 1 (by decide) (hts _ wd_129) (fun _ h9 => h9) rfl dX5_sendBack_5 ?_
  refine lv_iload_n hx hb dX5_sendBack_8 rfl (lv_at hl 0 rfl) ?_
  refine va_iald hx hb hK hP 1 0 rfl rfl (ti_in vx_505 (by omega) (by omega)) dX5_sendBack_9 ?_
  refine lv_topi (fun x_506 ex_506 => ?_)
  have rg_x_506 := fb_rng x_506
  have kx_506 : (fS_order x_505.toNatClampNeg).toInt = x_506.toInt := by rw [ex_506]
  have ux_506 := a_fS_order _ (by have q := ti_cl (x := x_505) vx_505 (by omega); omega : x_505.toNatClampNeg < 72)
  rw [show fS_order x_505.toNatClampNeg = x_506 from ex_506.symm] at ux_506
  refine lv_istore (lv' := [(4, .int x_506), (3, .int x_505), (0, .ref oS), (1, .int p0), (2, .int p1)]) hx hb dX5_sendBack_10 hl (by decide) rfl (fun ls hl => ?_)
  refine lv_iconst (v := 0) hx hb dX5_sendBack_12 (by decide) ?_
  refine lv_istore (lv' := [(5, .int 0), (4, .int x_506), (3, .int x_505), (0, .ref oS), (1, .int p0), (2, .int p1)]) hx hb dX5_sendBack_13 hl (by decide) rfl (fun ls hl => ?_)
  have hl := lv_sub hl (l' := [(5, .int 0), (4, .int x_506), (3, .int x_505), (0, .ref oS), (1, .int p0), (2, .int p1)]) [0, 1, 2, 3, 4, 5] rfl
  have key_n_509 : ∀ (n_509 : Nat) (z_507 : Int32) (f_508 : Nat → Int32) (H : Heap) (locs : List Loc) (ls : Array Slot), (∀ j : Nat, j < 72 → 0 ≤ (f_508 j).toInt ∧ (f_508 j).toInt ≤ 3) → (0 ≤ z_507.toInt ∧ z_507.toInt ≤ 2147483647) → (2147483647 - z_507.toInt).toNat < n_509 → va_P (dC, dI) vwCl [(oS, .inr (5, [.ref rS_worths, .ref rS_order, .ref rS_left])), (rS_order, .inl (kS_order, 72, .inl f_508))] H → va_D A [(oS, .inr (5, [.ref rS_worths, .ref rS_order, .ref rS_left])), (rS_order, .inl (kS_order, 72, .inl f_508))] → va_S A s.heap H locs → lv_has ls 6 [(5, .int z_507), (4, .int x_506), (3, .int x_505), (0, .ref oS), (1, .int p0), (2, .int p1)] → W p l e (headSpec (Cond.code yX5_sendBack cX5_sendBack 6 none :: wG) ({ frames := 0, cells := 0, slots := 0, locals := 0 })).room s m ([.ref oS, .int p0, .int p1] : List Value).toArray below meth c H locs 0 0 (MQ below (va_Qv (fun (_ : Nat) => True) (fun (_ : Nat) (t : State) => ∃ (nfS_order : Nat → Int32), (∀ j : Nat, j < 72 → 0 ≤ (nfS_order j).toInt ∧ (nfS_order j).toInt ≤ 3) ∧ Bw dC dI A [(oS, .inr (5, [.ref rS_worths, .ref rS_order, .ref rS_left])), (rS_order, .inl (kS_order, 72, .inl nfS_order))] [(kS_order, .int)] t) A) ([.ref oS, .int p0, .int p1] : List Value).toArray s 0 0 A) (F0 m 15 ls []) := by
    intro n_509
    induction n_509 with
    | zero => intro z_507 f_508 H locs ls a_f_508 hi0_n_509 hm; exact absurd hm (by omega)
    | succ n_509 ih_n_509 =>
      intro z_507 f_508 H locs ls a_f_508 hi0_n_509 hm hP hD hS hl
      have rg_z_507 := fb_rng z_507
      refine lv_iload hx hb dX5_sendBack_15 (lv_at hl 0 rfl) ?_
      refine lv_iload_n hx hb dX5_sendBack_17 rfl (lv_at hl 5 rfl) ?_
      refine lv_icmp_ge (tgt := 47) hx hb dX5_sendBack_18 (by decide) (fun c_510 => ?_) (fun c_510 => ?_)
      · skip
        have gc_510 := ti_le c_510 rfl rfl
        refine lv_aload_n hx hb dX5_sendBack_47 rfl (lv_at hl 3 rfl) ?_
        refine va_get (D := (dC, dI)) (ci := 5) (v := .ref rS_order) (C := RX5) (T := TX5) (N := 3) hx hb hts inX5 hown hK hP 0 rfl rfl 1 (by decide) (hts _ wd_129) (fun _ h9 => h9) rfl dX5_sendBack_48 ?_
        refine lv_iload_n hx hb dX5_sendBack_51 rfl (lv_at hl 2 rfl) ?_
        refine lv_iload_n hx hb dX5_sendBack_52 rfl (lv_at hl 5 rfl) ?_
        refine lv_iadd hx hb dX5_sendBack_53 ?_
        refine lv_topi (fun x_511 ex_511 => ?_)
        have vx_511 : x_511.toInt = 4 * p0.toInt + p1.toInt := by have q := ti_add ex_511 vx_505 rfl (by omega) (by omega); omega
        refine lv_iload hx hb dX5_sendBack_54 (lv_at hl 1 rfl) ?_
        refine vi_iast (lo := 0) (hi := 3) hx hb hK hP hD hS 1 0 rfl rfl (ti_in vx_511 (by omega) (by omega)) a_f_508 (by omega) dX5_sendBack_56 (fun H locs f_512 a_f_512 hP hD hS => ?_)
        have hP : va_P (dC, dI) vwCl [(oS, .inr (5, [.ref rS_worths, .ref rS_order, .ref rS_left])), (rS_order, .inl (kS_order, 72, .inl f_512))] H := hP
        have hD : va_D A [(oS, .inr (5, [.ref rS_worths, .ref rS_order, .ref rS_left])), (rS_order, .inl (kS_order, 72, .inl f_512))] := hD
        have hP9 := hP.sub (ws' := [(oS, .inr (5, [.ref rS_worths, .ref rS_order, .ref rS_left])), (rS_order, .inl (kS_order, 72, .inl f_512))]) [0, 1] rfl
        have hD9 := hD.sub (ws' := [(oS, .inr (5, [.ref rS_worths, .ref rS_order, .ref rS_left])), (rS_order, .inl (kS_order, 72, .inl f_512))]) [0, 1] (by decide) rfl
        have hK9 := hK.sub (tys' := [(kS_order, .int)]) [0] rfl
        exact W.vret hx hb hr (fun t ht hW => ⟨⟨0, rfl, trivial, ⟨f_512, a_f_512, Bw.to hP9 hD9 hK9 ht hW⟩⟩, hS.F ht⟩) hS.2.2 dX5_sendBack_57
      · skip
        have gc_510 := ti_nle c_510 rfl rfl
        refine lv_aload_n hx hb dX5_sendBack_21 rfl (lv_at hl 3 rfl) ?_
        refine va_get (D := (dC, dI)) (ci := 5) (v := .ref rS_order) (C := RX5) (T := TX5) (N := 3) hx hb hts inX5 hown hK hP 0 rfl rfl 1 (by decide) (hts _ wd_129) (fun _ h9 => h9) rfl dX5_sendBack_22 ?_
        refine lv_iload_n hx hb dX5_sendBack_25 rfl (lv_at hl 2 rfl) ?_
        refine lv_iload hx hb dX5_sendBack_26 (lv_at hl 0 rfl) ?_
        refine lv_iadd hx hb dX5_sendBack_28 ?_
        refine lv_topi (fun x_513 ex_513 => ?_)
        have vx_513 : x_513.toInt = 4 * p0.toInt + z_507.toInt := by have q := ti_add ex_513 vx_505 rfl (by omega) (by omega); omega
        refine lv_aload_n hx hb dX5_sendBack_29 rfl (lv_at hl 3 rfl) ?_
        refine va_get (D := (dC, dI)) (ci := 5) (v := .ref rS_order) (C := RX5) (T := TX5) (N := 3) hx hb hts inX5 hown hK hP 0 rfl rfl 1 (by decide) (hts _ wd_129) (fun _ h9 => h9) rfl dX5_sendBack_30 ?_
        refine lv_iload_n hx hb dX5_sendBack_33 rfl (lv_at hl 2 rfl) ?_
        refine lv_iload hx hb dX5_sendBack_34 (lv_at hl 0 rfl) ?_
        refine lv_iadd hx hb dX5_sendBack_36 ?_
        refine lv_topi (fun x_514 ex_514 => ?_)
        have vx_514 : x_514.toInt = 4 * p0.toInt + z_507.toInt := by have q := ti_add ex_514 vx_505 rfl (by omega) (by omega); omega
        refine lv_iconst (v := 1) hx hb dX5_sendBack_37 (by decide) ?_
        refine lv_iadd hx hb dX5_sendBack_38 ?_
        refine lv_topi (fun x_515 ex_515 => ?_)
        have vx_515 : x_515.toInt = 4 * p0.toInt + z_507.toInt + 1 := by have q := ti_add ex_515 vx_514 kc_1 (by omega) (by omega); omega
        refine va_iald hx hb hK hP 1 0 rfl rfl (ti_in vx_515 (by omega) (by omega)) dX5_sendBack_39 ?_
        refine lv_topi (fun x_516 ex_516 => ?_)
        have rg_x_516 := fb_rng x_516
        have kx_516 : (f_508 x_515.toNatClampNeg).toInt = x_516.toInt := by rw [ex_516]
        have ux_516 := a_f_508 _ (by have q := ti_cl (x := x_515) vx_515 (by omega); omega : x_515.toNatClampNeg < 72)
        rw [show f_508 x_515.toNatClampNeg = x_516 from ex_516.symm] at ux_516
        refine vi_iast (lo := 0) (hi := 3) hx hb hK hP hD hS 1 0 rfl rfl (ti_in vx_513 (by omega) (by omega)) a_f_508 (by omega) dX5_sendBack_40 (fun H locs f_517 a_f_517 hP hD hS => ?_)
        have hP : va_P (dC, dI) vwCl [(oS, .inr (5, [.ref rS_worths, .ref rS_order, .ref rS_left])), (rS_order, .inl (kS_order, 72, .inl f_517))] H := hP
        have hD : va_D A [(oS, .inr (5, [.ref rS_worths, .ref rS_order, .ref rS_left])), (rS_order, .inl (kS_order, 72, .inl f_517))] := hD
        obtain ⟨x_518, ex_518⟩ : ∃ z : Int32, z = z_507 + Int32.ofInt 1 := ⟨_, rfl⟩
        have vx_518 : x_518.toInt = z_507.toInt + 1 := by have q := ti_add (y := 1) ex_518 rfl kc_1 (by omega) (by omega); omega
        refine lv_iinc (v := x_518) (lv' := [(5, .int x_518), (4, .int x_506), (3, .int x_505), (0, .ref oS), (1, .int p0), (2, .int p1)]) hx hb dX5_sendBack_41 hl (k := 0) rfl ex_518.symm (by decide) rfl (fun ls hl => ?_)
        refine lv_goto (tgt := 15) hx hb dX5_sendBack_44 (by decide) ?_
        exact ih_n_509 x_518 f_517 _ _ _ a_f_517 (by first | omega | decide | assumption) (by omega) (hP.sub [0, 1] rfl) (hD.sub [0, 1] (by decide) rfl) hS (lv_sub hl [0, 1, 2, 3, 4, 5] rfl)
  exact key_n_509 ((2147483647 - (0 : Int32).toInt).toNat + 1) 0 fS_order _ _ _ a_fS_order (by first | omega | decide | assumption | (have q0 := kc_0; have q1 := kc_1; omega)) (by omega) hP hD hS hl
set_option maxHeartbeats 4000000 in
set_option maxRecDepth 100000 in
theorem tX5_putInOrder (l : Launch) (dC : Nat → ClassId) (dI : Nat → Nat → Nat) (sz : Nat) (oS : Nat) (rS_worths : Nat) (rS_order : Nat) (fS_order : Nat → Int32) (kS_order : ClassId) (rS_left : Nat) (fS_left : Nat → Int32) (kS_left : ClassId) (p0 : Int32) (p1 : Int32) (p2 : Int32) (a_fS_order : ∀ j : Nat, j < 72 → 0 ≤ (fS_order j).toInt ∧ (fS_order j).toInt ≤ 3) (a_fS_left : ∀ j : Nat, j < 4 → 0 ≤ (fS_left j).toInt ∧ (fS_left j).toInt ≤ 3) (hp0 : 0 ≤ p0.toInt ∧ p0.toInt ≤ 17) (hp1 : 0 ≤ p1.toInt ∧ p1.toInt ≤ 4) (hp2 : 0 ≤ p2.toInt ∧ p2.toInt ≤ 2147483647) : Met l yX5_putInOrder (Cond.code yX5_putInOrder cX5_putInOrder 9 none :: wG) ({ frames := 0, cells := 0, slots := 0, locals := 0 }) (va_Pc [.ref oS, .int p0, .int p1, .int p2] (Pw dC dI sz [(oS, .inr (5, [.ref rS_worths, .ref rS_order, .ref rS_left])), (rS_order, .inl (kS_order, 72, .inl fS_order)), (rS_left, .inl (kS_left, 4, .inl fS_left))] [(kS_order, .int), (kS_left, .int)])) (va_Qv (fun (_ : Nat) => True) (fun (_ : Nat) (t : State) => ∃ (nfS_order : Nat → Int32) (nfS_left : Nat → Int32), (∀ j : Nat, j < 72 → 0 ≤ (nfS_order j).toInt ∧ (nfS_order j).toInt ≤ 3) ∧ (∀ j : Nat, j < 4 → 0 ≤ (nfS_left j).toInt ∧ (nfS_left j).toInt ≤ 3) ∧ Bw dC dI (va_A [(oS, .inr (5, [.ref rS_worths, .ref rS_order, .ref rS_left])), (rS_order, .inl (kS_order, 72, .inl fS_order)), (rS_left, .inl (kS_left, 4, .inl fS_left))] sz) [(oS, .inr (5, [.ref rS_worths, .ref rS_order, .ref rS_left])), (rS_order, .inl (kS_order, 72, .inl nfS_order)), (rS_left, .inl (kS_left, 4, .inl nfS_left))] [(kS_order, .int), (kS_left, .int)] t) (va_A [(oS, .inr (5, [.ref rS_worths, .ref rS_order, .ref rS_left])), (rS_order, .inl (kS_order, 72, .inl fS_order)), (rS_left, .inl (kS_left, 4, .inl fS_left))] sz)) 0 0 (va_A [(oS, .inr (5, [.ref rS_worths, .ref rS_order, .ref rS_left])), (rS_order, .inl (kS_order, 72, .inl fS_order)), (rS_left, .inl (kS_left, 4, .inl fS_left))] sz) := by
  refine Met.ofW (cc := cX5_putInOrder) (maxL := 9) (ret := none) (by decide) rfl ?_
  intro p e s m args below meth c s₁ B hml hv
  obtain ⟨rfl, hsz, hP, hK, hD0, hE⟩ := hv
  have hx := B.exec
  have hb := B.bytes
  have hr := B.returns
  have hts : ∀ w ∈ wG, w.before ([.ref oS, .int p0, .int p1, .int p2] : List Value).toArray s = true := fun w h => atoms_spec (ws := Cond.code yX5_putInOrder cX5_putInOrder 9 none :: wG) B.pre w (List.mem_cons_of_mem _ h)
  have hown : s.vm.findClass RX5 = some m.cls := findClass_of_methodNamed B.named
  have hlocks := B.notSynchronized
  subst hsz
  have hD := hD0.self (sz := s.heap.size)
  generalize hAe : va_A [(oS, .inr (5, [.ref rS_worths, .ref rS_order, .ref rS_left])), (rS_order, .inl (kS_order, 72, .inl fS_order)), (rS_left, .inl (kS_left, 4, .inl fS_left))] s.heap.size = A at hD hE ⊢
  have hA : ∀ q : Nat, s.heap.size ≤ q → A q := fun q h => by rw [← hAe]; exact Or.inr h
  have hS : va_S A s.heap s.heap [] := va_S.rf
  have hl := lv_entry ([.ref oS, .int p0, .int p1, .int p2]) (n := 9) (Nat.le_of_ble_eq_true rfl)
  rw [lg_entry_eq]
  generalize (lg_sl ([.ref oS, .int p0, .int p1, .int p2]) ++ List.replicate (9 - (lg_sl ([.ref oS, .int p0, .int p1, .int p2])).length) Slot.unset).toArray = ls at hl ⊢
  have hl : lv_has ls 9 [(0, .ref oS), (1, .int p0), (2, .int p1), (3, .int p2)] := hl
  have rg_p0 := fb_rng p0
  have rg_p1 := fb_rng p1
  have rg_p2 := fb_rng p2
  refine lv_iload_n hx hb dX5_putInOrder_0 rfl (lv_at hl 1 rfl) ?_
  refine lv_iconst (v := 4) hx hb dX5_putInOrder_1 (by decide) ?_
  refine lv_imul hx hb dX5_putInOrder_2 ?_
  refine lv_topi (fun x_644 ex_644 => ?_)
  have vx_644 : x_644.toInt = 4 * p0.toInt := by have q := ti_mul ex_644 rfl kc_4 (by omega) (by omega); omega
  refine lv_istore (lv' := [(4, .int x_644), (0, .ref oS), (1, .int p0), (2, .int p1), (3, .int p2)]) hx hb dX5_putInOrder_3 hl (by decide) rfl (fun ls hl => ?_)
  refine lv_iconst (v := 0) hx hb dX5_putInOrder_5 (by decide) ?_
  refine lv_istore (lv' := [(5, .int 0), (4, .int x_644), (0, .ref oS), (1, .int p0), (2, .int p1), (3, .int p2)]) hx hb dX5_putInOrder_6 hl (by decide) rfl (fun ls hl => ?_)
  have hl := lv_sub hl (l' := [(5, .int 0), (4, .int x_644), (0, .ref oS), (1, .int p0), (2, .int p1), (3, .int p2)]) [0, 1, 2, 3, 4, 5] rfl
  have key_n_647 : ∀ (n_647 : Nat) (z_645 : Int32) (f_646 : Nat → Int32) (H : Heap) (locs : List Loc) (ls : Array Slot), (∀ j : Nat, j < 4 → 0 ≤ (f_646 j).toInt ∧ (f_646 j).toInt ≤ 3) → (0 ≤ z_645.toInt ∧ z_645.toInt ≤ 2147483647) → (2147483647 - z_645.toInt).toNat < n_647 → va_P (dC, dI) vwCl [(oS, .inr (5, [.ref rS_worths, .ref rS_order, .ref rS_left])), (rS_order, .inl (kS_order, 72, .inl fS_order)), (rS_left, .inl (kS_left, 4, .inl f_646))] H → va_D A [(oS, .inr (5, [.ref rS_worths, .ref rS_order, .ref rS_left])), (rS_order, .inl (kS_order, 72, .inl fS_order)), (rS_left, .inl (kS_left, 4, .inl f_646))] → va_S A s.heap H locs → lv_has ls 9 [(5, .int z_645), (4, .int x_644), (0, .ref oS), (1, .int p0), (2, .int p1), (3, .int p2)] → W p l e (headSpec (Cond.code yX5_putInOrder cX5_putInOrder 9 none :: wG) ({ frames := 0, cells := 0, slots := 0, locals := 0 })).room s m ([.ref oS, .int p0, .int p1, .int p2] : List Value).toArray below meth c H locs 0 0 (MQ below (va_Qv (fun (_ : Nat) => True) (fun (_ : Nat) (t : State) => ∃ (nfS_order : Nat → Int32) (nfS_left : Nat → Int32), (∀ j : Nat, j < 72 → 0 ≤ (nfS_order j).toInt ∧ (nfS_order j).toInt ≤ 3) ∧ (∀ j : Nat, j < 4 → 0 ≤ (nfS_left j).toInt ∧ (nfS_left j).toInt ≤ 3) ∧ Bw dC dI A [(oS, .inr (5, [.ref rS_worths, .ref rS_order, .ref rS_left])), (rS_order, .inl (kS_order, 72, .inl nfS_order)), (rS_left, .inl (kS_left, 4, .inl nfS_left))] [(kS_order, .int), (kS_left, .int)] t) A) ([.ref oS, .int p0, .int p1, .int p2] : List Value).toArray s 0 0 A) (F0 m 8 ls []) := by
    intro n_647
    induction n_647 with
    | zero => intro z_645 f_646 H locs ls a_f_646 hi0_n_647 hm; exact absurd hm (by omega)
    | succ n_647 ih_n_647 =>
      intro z_645 f_646 H locs ls a_f_646 hi0_n_647 hm hP hD hS hl
      have rg_z_645 := fb_rng z_645
      refine lv_iload hx hb dX5_putInOrder_8 (lv_at hl 0 rfl) ?_
      refine lv_iload_n hx hb dX5_putInOrder_10 rfl (lv_at hl 4 rfl) ?_
      refine lv_icmp_ge (tgt := 37) hx hb dX5_putInOrder_11 (by decide) (fun c_648 => ?_) (fun c_648 => ?_)
      · skip
        have gc_648 := ti_le c_648 rfl rfl
        refine lv_iload_n hx hb dX5_putInOrder_37 rfl (lv_at hl 5 rfl) ?_
        refine lv_istore (lv' := [(5, .int p2), (4, .int x_644), (0, .ref oS), (1, .int p0), (2, .int p1), (3, .int p2)]) hx hb dX5_putInOrder_38 hl (by decide) rfl (fun ls hl => ?_)
        refine lv_iload_n hx hb dX5_putInOrder_40 rfl (lv_at hl 4 rfl) ?_
        refine lv_istore (lv' := [(6, .int p1), (5, .int p2), (4, .int x_644), (0, .ref oS), (1, .int p0), (2, .int p1), (3, .int p2)]) hx hb dX5_putInOrder_41 hl (by decide) rfl (fun ls hl => ?_)
        have hl := lv_sub hl (l' := [(6, .int p1), (5, .int p2), (4, .int x_644), (0, .ref oS), (1, .int p0), (2, .int p1), (3, .int p2)]) [0, 1, 2, 3, 4, 5, 6] rfl
        have key_n_653 : ∀ (n_653 : Nat) (z_649 : Int32) (z_650 : Int32) (f_651 : Nat → Int32) (f_652 : Nat → Int32) (H : Heap) (locs : List Loc) (ls : Array Slot), (∀ j : Nat, j < 72 → 0 ≤ (f_651 j).toInt ∧ (f_651 j).toInt ≤ 3) → (∀ j : Nat, j < 4 → 0 ≤ (f_652 j).toInt ∧ (f_652 j).toInt ≤ 3) → (0 ≤ z_649.toInt ∧ z_649.toInt ≤ p1.toInt) → (0 ≤ z_650.toInt) → z_649.toInt.toNat < n_653 → va_P (dC, dI) vwCl [(oS, .inr (5, [.ref rS_worths, .ref rS_order, .ref rS_left])), (rS_order, .inl (kS_order, 72, .inl f_651)), (rS_left, .inl (kS_left, 4, .inl f_652))] H → va_D A [(oS, .inr (5, [.ref rS_worths, .ref rS_order, .ref rS_left])), (rS_order, .inl (kS_order, 72, .inl f_651)), (rS_left, .inl (kS_left, 4, .inl f_652))] → va_S A s.heap H locs → lv_has ls 9 [(6, .int z_649), (5, .int z_650), (4, .int x_644), (0, .ref oS), (1, .int p0), (2, .int p1), (3, .int p2)] → W p l e (headSpec (Cond.code yX5_putInOrder cX5_putInOrder 9 none :: wG) ({ frames := 0, cells := 0, slots := 0, locals := 0 })).room s m ([.ref oS, .int p0, .int p1, .int p2] : List Value).toArray below meth c H locs 0 0 (MQ below (va_Qv (fun (_ : Nat) => True) (fun (_ : Nat) (t : State) => ∃ (nfS_order : Nat → Int32) (nfS_left : Nat → Int32), (∀ j : Nat, j < 72 → 0 ≤ (nfS_order j).toInt ∧ (nfS_order j).toInt ≤ 3) ∧ (∀ j : Nat, j < 4 → 0 ≤ (nfS_left j).toInt ∧ (nfS_left j).toInt ≤ 3) ∧ Bw dC dI A [(oS, .inr (5, [.ref rS_worths, .ref rS_order, .ref rS_left])), (rS_order, .inl (kS_order, 72, .inl nfS_order)), (rS_left, .inl (kS_left, 4, .inl nfS_left))] [(kS_order, .int), (kS_left, .int)] t) A) ([.ref oS, .int p0, .int p1, .int p2] : List Value).toArray s 0 0 A) (F0 m 43 ls []) := by
          intro n_653
          induction n_653 with
          | zero => intro z_649 z_650 f_651 f_652 H locs ls a_f_651 a_f_652 hi0_n_653 hi1_n_653 hm; exact absurd hm (by omega)
          | succ n_653 ih_n_653 =>
            intro z_649 z_650 f_651 f_652 H locs ls a_f_651 a_f_652 hi0_n_653 hi1_n_653 hm hP hD hS hl
            have rg_z_649 := fb_rng z_649
            have rg_z_650 := fb_rng z_650
            refine lv_iload hx hb dX5_putInOrder_43 (lv_at hl 0 rfl) ?_
            refine lv_if_le (tgt := 122) hx hb dX5_putInOrder_45 (by decide) (fun c_654 => ?_) (fun c_654 => ?_)
            · skip
              have gc_654 := ti_le c_654 rfl kc_0
              have hP9 := hP.sub (ws' := [(oS, .inr (5, [.ref rS_worths, .ref rS_order, .ref rS_left])), (rS_order, .inl (kS_order, 72, .inl f_651)), (rS_left, .inl (kS_left, 4, .inl f_652))]) [0, 1, 2] rfl
              have hD9 := hD.sub (ws' := [(oS, .inr (5, [.ref rS_worths, .ref rS_order, .ref rS_left])), (rS_order, .inl (kS_order, 72, .inl f_651)), (rS_left, .inl (kS_left, 4, .inl f_652))]) [0, 1, 2] (by decide) rfl
              have hK9 := hK.sub (tys' := [(kS_order, .int), (kS_left, .int)]) [0, 1] rfl
              exact W.vret hx hb hr (fun t ht hW => ⟨⟨0, rfl, trivial, ⟨f_651, f_652, a_f_651, a_f_652, Bw.to hP9 hD9 hK9 ht hW⟩⟩, hS.F ht⟩) hS.2.2 dX5_putInOrder_122
            · skip
              have gc_654 := ti_nle c_654 rfl kc_0
              refine lv_iload hx hb dX5_putInOrder_48 (lv_at hl 1 rfl) ?_
              refine lv_iload hx hb dX5_putInOrder_50 (lv_at hl 0 rfl) ?_
              refine lv_irem hx hb dX5_putInOrder_52 (ti_n0 rfl (by omega)) ?_
              refine lv_topi (fun x_655 ex_655 => ?_)
              have rg_x_655 := fb_rng x_655
              have qx_655 := ti_rem ex_655 rfl rfl (by omega) (by omega)
              refine lv_istore (lv' := [(7, .int x_655), (6, .int z_649), (5, .int z_650), (4, .int x_644), (0, .ref oS), (1, .int p0), (2, .int p1), (3, .int p2)]) hx hb dX5_putInOrder_53 hl (by decide) rfl (fun ls hl => ?_)
              refine lv_iload hx hb dX5_putInOrder_55 (lv_at hl 2 rfl) ?_
              refine lv_iload hx hb dX5_putInOrder_57 (lv_at hl 1 rfl) ?_
              refine lv_idiv hx hb dX5_putInOrder_59 (ti_n0 rfl (by omega)) ?_
              refine lv_topi (fun x_656 ex_656 => ?_)
              have rg_x_656 := fb_rng x_656
              have qx_656 := ti_div ex_656 rfl rfl (by omega) (by omega)
              refine lv_istore (lv' := [(5, .int x_656), (7, .int x_655), (6, .int z_649), (4, .int x_644), (0, .ref oS), (1, .int p0), (2, .int p1), (3, .int p2)]) hx hb dX5_putInOrder_60 hl (by decide) rfl (fun ls hl => ?_)
              refine lv_aload_n hx hb dX5_putInOrder_62 rfl (lv_at hl 4 rfl) ?_
              refine va_get (D := (dC, dI)) (ci := 5) (v := .ref rS_order) (C := RX5) (T := TX5) (N := 3) hx hb hts inX5 hown hK hP 0 rfl rfl 1 (by decide) (hts _ wd_129) (fun _ h9 => h9) rfl dX5_putInOrder_63 ?_
              refine lv_iload hx hb dX5_putInOrder_66 (lv_at hl 3 rfl) ?_
              refine lv_iload_n hx hb dX5_putInOrder_68 rfl (lv_at hl 6 rfl) ?_
              refine lv_iadd hx hb dX5_putInOrder_69 ?_
              refine lv_topi (fun x_657 ex_657 => ?_)
              have vx_657 : x_657.toInt = 4 * p0.toInt + p1.toInt := by have q := ti_add ex_657 vx_644 rfl (by omega) (by omega); omega
              refine lv_iload hx hb dX5_putInOrder_70 (lv_at hl 2 rfl) ?_
              refine lv_isub hx hb dX5_putInOrder_72 ?_
              refine lv_topi (fun x_658 ex_658 => ?_)
              have vx_658 : x_658.toInt = 4 * p0.toInt + p1.toInt + (-1) * z_649.toInt := by have q := ti_sub ex_658 vx_657 rfl (by omega) (by omega); omega
              refine lv_aload_n hx hb dX5_putInOrder_73 rfl (lv_at hl 4 rfl) ?_
              refine va_get (D := (dC, dI)) (ci := 5) (v := .ref rS_left) (C := RX5) (T := TX5) (N := 3) hx hb hts inX5 hown hK hP 0 rfl rfl 2 (by decide) (hts _ wd_130) (fun _ h9 => h9) rfl dX5_putInOrder_74 ?_
              refine lv_iload hx hb dX5_putInOrder_77 (lv_at hl 1 rfl) ?_
              refine va_iald hx hb hK hP 2 1 rfl rfl (ti_in rfl (by omega) (by omega)) dX5_putInOrder_79 ?_
              refine lv_topi (fun x_659 ex_659 => ?_)
              have rg_x_659 := fb_rng x_659
              have kx_659 : (f_652 x_655.toNatClampNeg).toInt = x_659.toInt := by rw [ex_659]
              have ux_659 := a_f_652 _ (by have q := ti_cl (x := x_655) rfl (by omega); omega : x_655.toNatClampNeg < 4)
              rw [show f_652 x_655.toNatClampNeg = x_659 from ex_659.symm] at ux_659
              refine vi_iast (lo := 0) (hi := 3) hx hb hK hP hD hS 1 0 rfl rfl (ti_in vx_658 (by omega) (by omega)) a_f_651 (by omega) dX5_putInOrder_80 (fun H locs f_660 a_f_660 hP hD hS => ?_)
              have hP : va_P (dC, dI) vwCl [(oS, .inr (5, [.ref rS_worths, .ref rS_order, .ref rS_left])), (rS_order, .inl (kS_order, 72, .inl f_660)), (rS_left, .inl (kS_left, 4, .inl f_652))] H := hP
              have hD : va_D A [(oS, .inr (5, [.ref rS_worths, .ref rS_order, .ref rS_left])), (rS_order, .inl (kS_order, 72, .inl f_660)), (rS_left, .inl (kS_left, 4, .inl f_652))] := hD
              refine lv_iload hx hb dX5_putInOrder_81 (lv_at hl 1 rfl) ?_
              refine lv_istore (lv' := [(8, .int x_655), (5, .int x_656), (7, .int x_655), (6, .int z_649), (4, .int x_644), (0, .ref oS), (1, .int p0), (2, .int p1), (3, .int p2)]) hx hb dX5_putInOrder_83 hl (by decide) rfl (fun ls hl => ?_)
              have hl := lv_sub hl (l' := [(8, .int x_655), (5, .int x_656), (7, .int x_655), (6, .int z_649), (4, .int x_644), (0, .ref oS), (1, .int p0), (2, .int p1), (3, .int p2)]) [0, 1, 2, 3, 4, 5, 6, 7, 8] rfl
              have key_n_663 : ∀ (n_663 : Nat) (z_661 : Int32) (f_662 : Nat → Int32) (H : Heap) (locs : List Loc) (ls : Array Slot), (∀ j : Nat, j < 4 → 0 ≤ (f_662 j).toInt ∧ (f_662 j).toInt ≤ 3) → (0 ≤ z_661.toInt ∧ z_661.toInt ≤ 2147483647) → (2147483647 - z_661.toInt).toNat < n_663 → va_P (dC, dI) vwCl [(oS, .inr (5, [.ref rS_worths, .ref rS_order, .ref rS_left])), (rS_order, .inl (kS_order, 72, .inl f_660)), (rS_left, .inl (kS_left, 4, .inl f_662))] H → va_D A [(oS, .inr (5, [.ref rS_worths, .ref rS_order, .ref rS_left])), (rS_order, .inl (kS_order, 72, .inl f_660)), (rS_left, .inl (kS_left, 4, .inl f_662))] → va_S A s.heap H locs → lv_has ls 9 [(8, .int z_661), (5, .int x_656), (7, .int x_655), (6, .int z_649), (4, .int x_644), (0, .ref oS), (1, .int p0), (2, .int p1), (3, .int p2)] → W p l e (headSpec (Cond.code yX5_putInOrder cX5_putInOrder 9 none :: wG) ({ frames := 0, cells := 0, slots := 0, locals := 0 })).room s m ([.ref oS, .int p0, .int p1, .int p2] : List Value).toArray below meth c H locs 0 0 (MQ below (va_Qv (fun (_ : Nat) => True) (fun (_ : Nat) (t : State) => ∃ (nfS_order : Nat → Int32) (nfS_left : Nat → Int32), (∀ j : Nat, j < 72 → 0 ≤ (nfS_order j).toInt ∧ (nfS_order j).toInt ≤ 3) ∧ (∀ j : Nat, j < 4 → 0 ≤ (nfS_left j).toInt ∧ (nfS_left j).toInt ≤ 3) ∧ Bw dC dI A [(oS, .inr (5, [.ref rS_worths, .ref rS_order, .ref rS_left])), (rS_order, .inl (kS_order, 72, .inl nfS_order)), (rS_left, .inl (kS_left, 4, .inl nfS_left))] [(kS_order, .int), (kS_left, .int)] t) A) ([.ref oS, .int p0, .int p1, .int p2] : List Value).toArray s 0 0 A) (F0 m 85 ls []) := by
                intro n_663
                induction n_663 with
                | zero => intro z_661 f_662 H locs ls a_f_662 hi0_n_663 hm; exact absurd hm (by omega)
                | succ n_663 ih_n_663 =>
                  intro z_661 f_662 H locs ls a_f_662 hi0_n_663 hm hP hD hS hl
                  have rg_z_661 := fb_rng z_661
                  refine lv_iload hx hb dX5_putInOrder_85 (lv_at hl 0 rfl) ?_
                  refine lv_iload hx hb dX5_putInOrder_87 (lv_at hl 3 rfl) ?_
                  refine lv_iconst (v := 1) hx hb dX5_putInOrder_89 (by decide) ?_
                  refine lv_isub hx hb dX5_putInOrder_90 ?_
                  refine lv_topi (fun x_664 ex_664 => ?_)
                  have vx_664 : x_664.toInt = z_649.toInt + (-1) := by have q := ti_sub ex_664 rfl kc_1 (by omega) (by omega); omega
                  refine lv_icmp_ge (tgt := 116) hx hb dX5_putInOrder_91 (by decide) (fun c_665 => ?_) (fun c_665 => ?_)
                  · skip
                    have gc_665 := ti_le c_665 vx_664 rfl
                    obtain ⟨x_666, ex_666⟩ : ∃ z : Int32, z = z_649 + Int32.ofInt (-1) := ⟨_, rfl⟩
                    have vx_666 : x_666.toInt = z_649.toInt + (-1) := by have q := ti_add (y := (-1)) ex_666 rfl kc_m1 (by omega) (by omega); omega
                    refine lv_iinc (v := x_666) (lv' := [(6, .int x_666), (8, .int z_661), (5, .int x_656), (7, .int x_655), (4, .int x_644), (0, .ref oS), (1, .int p0), (2, .int p1), (3, .int p2)]) hx hb dX5_putInOrder_116 hl (k := 3) rfl ex_666.symm (by decide) rfl (fun ls hl => ?_)
                    refine lv_goto (tgt := 43) hx hb dX5_putInOrder_119 (by decide) ?_
                    exact ih_n_653 x_666 x_656 f_660 f_662 _ _ _ a_f_660 a_f_662 (by first | omega | decide | assumption) (by first | omega | decide | assumption) (by omega) (hP.sub [0, 1, 2] rfl) (hD.sub [0, 1, 2] (by decide) rfl) hS (lv_sub hl [0, 2, 4, 5, 6, 7, 8] rfl)
                  · skip
                    have gc_665 := ti_nle c_665 vx_664 rfl
                    refine lv_aload_n hx hb dX5_putInOrder_94 rfl (lv_at hl 5 rfl) ?_
                    refine va_get (D := (dC, dI)) (ci := 5) (v := .ref rS_left) (C := RX5) (T := TX5) (N := 3) hx hb hts inX5 hown hK hP 0 rfl rfl 2 (by decide) (hts _ wd_130) (fun _ h9 => h9) rfl dX5_putInOrder_95 ?_
                    refine lv_iload hx hb dX5_putInOrder_98 (lv_at hl 0 rfl) ?_
                    refine lv_aload_n hx hb dX5_putInOrder_100 rfl (lv_at hl 5 rfl) ?_
                    refine va_get (D := (dC, dI)) (ci := 5) (v := .ref rS_left) (C := RX5) (T := TX5) (N := 3) hx hb hts inX5 hown hK hP 0 rfl rfl 2 (by decide) (hts _ wd_130) (fun _ h9 => h9) rfl dX5_putInOrder_101 ?_
                    refine lv_iload hx hb dX5_putInOrder_104 (lv_at hl 0 rfl) ?_
                    refine lv_iconst (v := 1) hx hb dX5_putInOrder_106 (by decide) ?_
                    refine lv_iadd hx hb dX5_putInOrder_107 ?_
                    refine lv_topi (fun x_667 ex_667 => ?_)
                    have vx_667 : x_667.toInt = z_661.toInt + 1 := by have q := ti_add ex_667 rfl kc_1 (by omega) (by omega); omega
                    refine va_iald hx hb hK hP 2 1 rfl rfl (ti_in vx_667 (by omega) (by omega)) dX5_putInOrder_108 ?_
                    refine lv_topi (fun x_668 ex_668 => ?_)
                    have rg_x_668 := fb_rng x_668
                    have kx_668 : (f_662 x_667.toNatClampNeg).toInt = x_668.toInt := by rw [ex_668]
                    have ux_668 := a_f_662 _ (by have q := ti_cl (x := x_667) vx_667 (by omega); omega : x_667.toNatClampNeg < 4)
                    rw [show f_662 x_667.toNatClampNeg = x_668 from ex_668.symm] at ux_668
                    refine vi_iast (lo := 0) (hi := 3) hx hb hK hP hD hS 2 1 rfl rfl (ti_in rfl (by omega) (by omega)) a_f_662 (by omega) dX5_putInOrder_109 (fun H locs f_669 a_f_669 hP hD hS => ?_)
                    have hP : va_P (dC, dI) vwCl [(oS, .inr (5, [.ref rS_worths, .ref rS_order, .ref rS_left])), (rS_order, .inl (kS_order, 72, .inl f_660)), (rS_left, .inl (kS_left, 4, .inl f_669))] H := hP
                    have hD : va_D A [(oS, .inr (5, [.ref rS_worths, .ref rS_order, .ref rS_left])), (rS_order, .inl (kS_order, 72, .inl f_660)), (rS_left, .inl (kS_left, 4, .inl f_669))] := hD
                    obtain ⟨x_670, ex_670⟩ : ∃ z : Int32, z = z_661 + Int32.ofInt 1 := ⟨_, rfl⟩
                    have vx_670 : x_670.toInt = z_661.toInt + 1 := by have q := ti_add (y := 1) ex_670 rfl kc_1 (by omega) (by omega); omega
                    refine lv_iinc (v := x_670) (lv' := [(8, .int x_670), (5, .int x_656), (7, .int x_655), (6, .int z_649), (4, .int x_644), (0, .ref oS), (1, .int p0), (2, .int p1), (3, .int p2)]) hx hb dX5_putInOrder_110 hl (k := 0) rfl ex_670.symm (by decide) rfl (fun ls hl => ?_)
                    refine lv_goto (tgt := 85) hx hb dX5_putInOrder_113 (by decide) ?_
                    exact ih_n_663 x_670 f_669 _ _ _ a_f_669 (by first | omega | decide | assumption) (by omega) (hP.sub [0, 1, 2] rfl) (hD.sub [0, 1, 2] (by decide) rfl) hS (lv_sub hl [0, 1, 2, 3, 4, 5, 6, 7, 8] rfl)
              exact key_n_663 ((2147483647 - x_655.toInt).toNat + 1) x_655 f_652 _ _ _ a_f_652 (by first | omega | decide | assumption | (have q0 := kc_0; have q1 := kc_1; omega)) (by omega) hP hD hS hl
        exact key_n_653 (p1.toInt.toNat + 1) p1 p2 fS_order f_646 _ _ _ a_fS_order a_f_646 (by first | omega | decide | assumption | (have q0 := kc_0; have q1 := kc_1; omega)) (by first | omega | decide | assumption | (have q0 := kc_0; have q1 := kc_1; omega)) (by omega) hP hD hS hl
      · skip
        have gc_648 := ti_nle c_648 rfl rfl
        refine lv_aload_n hx hb dX5_putInOrder_14 rfl (lv_at hl 2 rfl) ?_
        refine va_get (D := (dC, dI)) (ci := 5) (v := .ref rS_left) (C := RX5) (T := TX5) (N := 3) hx hb hts inX5 hown hK hP 0 rfl rfl 2 (by decide) (hts _ wd_130) (fun _ h9 => h9) rfl dX5_putInOrder_15 ?_
        refine lv_iload hx hb dX5_putInOrder_18 (lv_at hl 0 rfl) ?_
        refine lv_aload_n hx hb dX5_putInOrder_20 rfl (lv_at hl 2 rfl) ?_
        refine va_get (D := (dC, dI)) (ci := 5) (v := .ref rS_order) (C := RX5) (T := TX5) (N := 3) hx hb hts inX5 hown hK hP 0 rfl rfl 1 (by decide) (hts _ wd_129) (fun _ h9 => h9) rfl dX5_putInOrder_21 ?_
        refine lv_iload hx hb dX5_putInOrder_24 (lv_at hl 1 rfl) ?_
        refine lv_iload hx hb dX5_putInOrder_26 (lv_at hl 0 rfl) ?_
        refine lv_iadd hx hb dX5_putInOrder_28 ?_
        refine lv_topi (fun x_671 ex_671 => ?_)
        have vx_671 : x_671.toInt = 4 * p0.toInt + z_645.toInt := by have q := ti_add ex_671 vx_644 rfl (by omega) (by omega); omega
        refine va_iald hx hb hK hP 1 0 rfl rfl (ti_in vx_671 (by omega) (by omega)) dX5_putInOrder_29 ?_
        refine lv_topi (fun x_672 ex_672 => ?_)
        have rg_x_672 := fb_rng x_672
        have kx_672 : (fS_order x_671.toNatClampNeg).toInt = x_672.toInt := by rw [ex_672]
        have ux_672 := a_fS_order _ (by have q := ti_cl (x := x_671) vx_671 (by omega); omega : x_671.toNatClampNeg < 72)
        rw [show fS_order x_671.toNatClampNeg = x_672 from ex_672.symm] at ux_672
        refine vi_iast (lo := 0) (hi := 3) hx hb hK hP hD hS 2 1 rfl rfl (ti_in rfl (by omega) (by omega)) a_f_646 (by omega) dX5_putInOrder_30 (fun H locs f_673 a_f_673 hP hD hS => ?_)
        have hP : va_P (dC, dI) vwCl [(oS, .inr (5, [.ref rS_worths, .ref rS_order, .ref rS_left])), (rS_order, .inl (kS_order, 72, .inl fS_order)), (rS_left, .inl (kS_left, 4, .inl f_673))] H := hP
        have hD : va_D A [(oS, .inr (5, [.ref rS_worths, .ref rS_order, .ref rS_left])), (rS_order, .inl (kS_order, 72, .inl fS_order)), (rS_left, .inl (kS_left, 4, .inl f_673))] := hD
        obtain ⟨x_674, ex_674⟩ : ∃ z : Int32, z = z_645 + Int32.ofInt 1 := ⟨_, rfl⟩
        have vx_674 : x_674.toInt = z_645.toInt + 1 := by have q := ti_add (y := 1) ex_674 rfl kc_1 (by omega) (by omega); omega
        refine lv_iinc (v := x_674) (lv' := [(5, .int x_674), (4, .int x_644), (0, .ref oS), (1, .int p0), (2, .int p1), (3, .int p2)]) hx hb dX5_putInOrder_31 hl (k := 0) rfl ex_674.symm (by decide) rfl (fun ls hl => ?_)
        refine lv_goto (tgt := 8) hx hb dX5_putInOrder_34 (by decide) ?_
        exact ih_n_647 x_674 f_673 _ _ _ a_f_673 (by first | omega | decide | assumption) (by omega) (hP.sub [0, 1, 2] rfl) (hD.sub [0, 1, 2] (by decide) rfl) hS (lv_sub hl [0, 1, 2, 3, 4, 5] rfl)
  exact key_n_647 ((2147483647 - (0 : Int32).toInt).toNat + 1) 0 fS_left _ _ _ a_fS_left (by first | omega | decide | assumption | (have q0 := kc_0; have q1 := kc_1; omega)) (by omega) hP hD hS hl
set_option maxHeartbeats 4000000 in
set_option maxRecDepth 100000 in
theorem tX5_turnRound (l : Launch) (dC : Nat → ClassId) (dI : Nat → Nat → Nat) (sz : Nat) (oS : Nat) (rS_worths : Nat) (rS_order : Nat) (fS_order : Nat → Int32) (kS_order : ClassId) (rS_left : Nat) (oT : Nat) (rT_worths : Nat) (rT_order : Nat) (fT_order : Nat → Int32) (kT_order : ClassId) (rT_left : Nat) (p0 : Int32) (p1 : Int32) (p2 : Int32) (a_fS_order : ∀ j : Nat, j < 72 → 0 ≤ (fS_order j).toInt ∧ (fS_order j).toInt ≤ 3) (a_fT_order : ∀ j : Nat, j < 72 → 0 ≤ (fT_order j).toInt ∧ (fT_order j).toInt ≤ 3) (hp0 : 0 ≤ p0.toInt ∧ p0.toInt ≤ 17) (hp1 : 0 ≤ p1.toInt ∧ p1.toInt ≤ 4) (hp2 : 0 ≤ p2.toInt ∧ p2.toInt < p1.toInt) : Met l yX5_turnRound (Cond.code yX5_turnRound cX5_turnRound 8 none :: wG) ({ frames := 0, cells := 0, slots := 0, locals := 0 }) (va_Pc [.ref oS, .ref oT, .int p0, .int p1, .int p2] (Pw dC dI sz [(oS, .inr (5, [.ref rS_worths, .ref rS_order, .ref rS_left])), (rS_order, .inl (kS_order, 72, .inl fS_order)), (oT, .inr (5, [.ref rT_worths, .ref rT_order, .ref rT_left])), (rT_order, .inl (kT_order, 72, .inl fT_order))] [(kS_order, .int), (kT_order, .int)])) (va_Qv (fun (_ : Nat) => True) (fun (_ : Nat) (t : State) => ∃ (nfS_order : Nat → Int32), (∀ j : Nat, j < 72 → 0 ≤ (nfS_order j).toInt ∧ (nfS_order j).toInt ≤ 3) ∧ Bw dC dI (va_A [(oS, .inr (5, [.ref rS_worths, .ref rS_order, .ref rS_left])), (rS_order, .inl (kS_order, 72, .inl fS_order)), (oT, .inr (5, [.ref rT_worths, .ref rT_order, .ref rT_left])), (rT_order, .inl (kT_order, 72, .inl fT_order))] sz) [(oS, .inr (5, [.ref rS_worths, .ref rS_order, .ref rS_left])), (rS_order, .inl (kS_order, 72, .inl nfS_order)), (oT, .inr (5, [.ref rT_worths, .ref rT_order, .ref rT_left])), (rT_order, .inl (kT_order, 72, .inl fT_order))] [(kS_order, .int), (kT_order, .int)] t) (va_A [(oS, .inr (5, [.ref rS_worths, .ref rS_order, .ref rS_left])), (rS_order, .inl (kS_order, 72, .inl fS_order)), (oT, .inr (5, [.ref rT_worths, .ref rT_order, .ref rT_left])), (rT_order, .inl (kT_order, 72, .inl fT_order))] sz)) 0 0 (va_A [(oS, .inr (5, [.ref rS_worths, .ref rS_order, .ref rS_left])), (rS_order, .inl (kS_order, 72, .inl fS_order)), (oT, .inr (5, [.ref rT_worths, .ref rT_order, .ref rT_left])), (rT_order, .inl (kT_order, 72, .inl fT_order))] sz) := by
  refine Met.ofW (cc := cX5_turnRound) (maxL := 8) (ret := none) (by decide) rfl ?_
  intro p e s m args below meth c s₁ B hml hv
  obtain ⟨rfl, hsz, hP, hK, hD0, hE⟩ := hv
  have hx := B.exec
  have hb := B.bytes
  have hr := B.returns
  have hts : ∀ w ∈ wG, w.before ([.ref oS, .ref oT, .int p0, .int p1, .int p2] : List Value).toArray s = true := fun w h => atoms_spec (ws := Cond.code yX5_turnRound cX5_turnRound 8 none :: wG) B.pre w (List.mem_cons_of_mem _ h)
  have hown : s.vm.findClass RX5 = some m.cls := findClass_of_methodNamed B.named
  have hlocks := B.notSynchronized
  subst hsz
  have hD := hD0.self (sz := s.heap.size)
  generalize hAe : va_A [(oS, .inr (5, [.ref rS_worths, .ref rS_order, .ref rS_left])), (rS_order, .inl (kS_order, 72, .inl fS_order)), (oT, .inr (5, [.ref rT_worths, .ref rT_order, .ref rT_left])), (rT_order, .inl (kT_order, 72, .inl fT_order))] s.heap.size = A at hD hE ⊢
  have hA : ∀ q : Nat, s.heap.size ≤ q → A q := fun q h => by rw [← hAe]; exact Or.inr h
  have hS : va_S A s.heap s.heap [] := va_S.rf
  have hl := lv_entry ([.ref oS, .ref oT, .int p0, .int p1, .int p2]) (n := 8) (Nat.le_of_ble_eq_true rfl)
  rw [lg_entry_eq]
  generalize (lg_sl ([.ref oS, .ref oT, .int p0, .int p1, .int p2]) ++ List.replicate (8 - (lg_sl ([.ref oS, .ref oT, .int p0, .int p1, .int p2])).length) Slot.unset).toArray = ls at hl ⊢
  have hl : lv_has ls 8 [(0, .ref oS), (1, .ref oT), (2, .int p0), (3, .int p1), (4, .int p2)] := hl
  have rg_p0 := fb_rng p0
  have rg_p1 := fb_rng p1
  have rg_p2 := fb_rng p2
  refine lv_iload_n hx hb dX5_turnRound_0 rfl (lv_at hl 2 rfl) ?_
  refine lv_iconst (v := 4) hx hb dX5_turnRound_1 (by decide) ?_
  refine lv_imul hx hb dX5_turnRound_2 ?_
  refine lv_topi (fun x_704 ex_704 => ?_)
  have vx_704 : x_704.toInt = 4 * p0.toInt := by have q := ti_mul ex_704 rfl kc_4 (by omega) (by omega); omega
  refine lv_istore (lv' := [(5, .int x_704), (0, .ref oS), (1, .ref oT), (2, .int p0), (3, .int p1), (4, .int p2)]) hx hb dX5_turnRound_3 hl (by decide) rfl (fun ls hl => ?_)
  refine lv_iconst (v := 0) hx hb dX5_turnRound_5 (by decide) ?_
  refine lv_istore (lv' := [(6, .int 0), (5, .int x_704), (0, .ref oS), (1, .ref oT), (2, .int p0), (3, .int p1), (4, .int p2)]) hx hb dX5_turnRound_6 hl (by decide) rfl (fun ls hl => ?_)
  have hl := lv_sub hl (l' := [(6, .int 0), (5, .int x_704), (0, .ref oS), (1, .ref oT), (2, .int p0), (3, .int p1), (4, .int p2)]) [0, 1, 2, 3, 4, 5, 6] rfl
  have key_n_707 : ∀ (n_707 : Nat) (z_705 : Int32) (f_706 : Nat → Int32) (H : Heap) (locs : List Loc) (ls : Array Slot), (∀ j : Nat, j < 72 → 0 ≤ (f_706 j).toInt ∧ (f_706 j).toInt ≤ 3) → (0 ≤ z_705.toInt ∧ z_705.toInt ≤ 2147483647) → (2147483647 - z_705.toInt).toNat < n_707 → va_P (dC, dI) vwCl [(oS, .inr (5, [.ref rS_worths, .ref rS_order, .ref rS_left])), (rS_order, .inl (kS_order, 72, .inl f_706)), (oT, .inr (5, [.ref rT_worths, .ref rT_order, .ref rT_left])), (rT_order, .inl (kT_order, 72, .inl fT_order))] H → va_D A [(oS, .inr (5, [.ref rS_worths, .ref rS_order, .ref rS_left])), (rS_order, .inl (kS_order, 72, .inl f_706)), (oT, .inr (5, [.ref rT_worths, .ref rT_order, .ref rT_left])), (rT_order, .inl (kT_order, 72, .inl fT_order))] → va_S A s.heap H locs → lv_has ls 8 [(6, .int z_705), (5, .int x_704), (0, .ref oS), (1, .ref oT), (2, .int p0), (3, .int p1), (4, .int p2)] → W p l e (headSpec (Cond.code yX5_turnRound cX5_turnRound 8 none :: wG) ({ frames := 0, cells := 0, slots := 0, locals := 0 })).room s m ([.ref oS, .ref oT, .int p0, .int p1, .int p2] : List Value).toArray below meth c H locs 0 0 (MQ below (va_Qv (fun (_ : Nat) => True) (fun (_ : Nat) (t : State) => ∃ (nfS_order : Nat → Int32), (∀ j : Nat, j < 72 → 0 ≤ (nfS_order j).toInt ∧ (nfS_order j).toInt ≤ 3) ∧ Bw dC dI A [(oS, .inr (5, [.ref rS_worths, .ref rS_order, .ref rS_left])), (rS_order, .inl (kS_order, 72, .inl nfS_order)), (oT, .inr (5, [.ref rT_worths, .ref rT_order, .ref rT_left])), (rT_order, .inl (kT_order, 72, .inl fT_order))] [(kS_order, .int), (kT_order, .int)] t) A) ([.ref oS, .ref oT, .int p0, .int p1, .int p2] : List Value).toArray s 0 0 A) (F0 m 8 ls []) := by
    intro n_707
    induction n_707 with
    | zero => intro z_705 f_706 H locs ls a_f_706 hi0_n_707 hm; exact absurd hm (by omega)
    | succ n_707 ih_n_707 =>
      intro z_705 f_706 H locs ls a_f_706 hi0_n_707 hm hP hD hS hl
      have rg_z_705 := fb_rng z_705
      refine lv_iload hx hb dX5_turnRound_8 (lv_at hl 0 rfl) ?_
      refine lv_iload_n hx hb dX5_turnRound_10 rfl (lv_at hl 5 rfl) ?_
      refine lv_icmp_ge (tgt := 60) hx hb dX5_turnRound_11 (by decide) (fun c_708 => ?_) (fun c_708 => ?_)
      · skip
        have gc_708 := ti_le c_708 rfl rfl
        have hP9 := hP.sub (ws' := [(oS, .inr (5, [.ref rS_worths, .ref rS_order, .ref rS_left])), (rS_order, .inl (kS_order, 72, .inl f_706)), (oT, .inr (5, [.ref rT_worths, .ref rT_order, .ref rT_left])), (rT_order, .inl (kT_order, 72, .inl fT_order))]) [0, 1, 2, 3] rfl
        have hD9 := hD.sub (ws' := [(oS, .inr (5, [.ref rS_worths, .ref rS_order, .ref rS_left])), (rS_order, .inl (kS_order, 72, .inl f_706)), (oT, .inr (5, [.ref rT_worths, .ref rT_order, .ref rT_left])), (rT_order, .inl (kT_order, 72, .inl fT_order))]) [0, 1, 2, 3] (by decide) rfl
        have hK9 := hK.sub (tys' := [(kS_order, .int), (kT_order, .int)]) [0, 1] rfl
        exact W.vret hx hb hr (fun t ht hW => ⟨⟨0, rfl, trivial, ⟨f_706, a_f_706, Bw.to hP9 hD9 hK9 ht hW⟩⟩, hS.F ht⟩) hS.2.2 dX5_turnRound_60
      · skip
        have gc_708 := ti_nle c_708 rfl rfl
        refine lv_iload hx hb dX5_turnRound_14 (lv_at hl 0 rfl) ?_
        refine lv_iload hx hb dX5_turnRound_16 (lv_at hl 6 rfl) ?_
        refine lv_iadd hx hb dX5_turnRound_18 ?_
        refine lv_topi (fun x_709 ex_709 => ?_)
        have vx_709 : x_709.toInt = p2.toInt + z_705.toInt := by have q := ti_add ex_709 rfl rfl (by omega) (by omega); omega
        refine lv_istore (lv' := [(7, .int x_709), (6, .int z_705), (5, .int x_704), (0, .ref oS), (1, .ref oT), (2, .int p0), (3, .int p1), (4, .int p2)]) hx hb dX5_turnRound_19 hl (by decide) rfl (fun ls hl => ?_)
        refine lv_aload_n hx hb dX5_turnRound_21 rfl (lv_at hl 3 rfl) ?_
        refine va_get (D := (dC, dI)) (ci := 5) (v := .ref rS_order) (C := RX5) (T := TX5) (N := 3) hx hb hts inX5 hown hK hP 0 rfl rfl 1 (by decide) (hts _ wd_129) (fun _ h9 => h9) rfl dX5_turnRound_22 ?_
        refine lv_iload hx hb dX5_turnRound_25 (lv_at hl 2 rfl) ?_
        refine lv_iload hx hb dX5_turnRound_27 (lv_at hl 1 rfl) ?_
        refine lv_iadd hx hb dX5_turnRound_29 ?_
        refine lv_topi (fun x_710 ex_710 => ?_)
        have vx_710 : x_710.toInt = 4 * p0.toInt + z_705.toInt := by have q := ti_add ex_710 vx_704 rfl (by omega) (by omega); omega
        refine lv_aload_n hx hb dX5_turnRound_30 rfl (lv_at hl 4 rfl) ?_
        refine va_get (D := (dC, dI)) (ci := 5) (v := .ref rT_order) (C := RX5) (T := TX5) (N := 3) hx hb hts inX5 hown hK hP 2 rfl rfl 1 (by decide) (hts _ wd_129) (fun _ h9 => h9) rfl dX5_turnRound_31 ?_
        refine lv_iload hx hb dX5_turnRound_34 (lv_at hl 2 rfl) ?_
        refine lv_iload hx hb dX5_turnRound_36 (lv_at hl 0 rfl) ?_
        refine lv_iload_n hx hb dX5_turnRound_38 rfl (lv_at hl 6 rfl) ?_
        refine lv_icmp_ge (tgt := 47) hx hb dX5_turnRound_39 (by decide) (fun c_711 => ?_) (fun c_711 => ?_)
        · skip
          have gc_711 := ti_le c_711 rfl vx_709
          refine lv_iload hx hb dX5_turnRound_47 (lv_at hl 0 rfl) ?_
          refine lv_iload_n hx hb dX5_turnRound_49 rfl (lv_at hl 6 rfl) ?_
          refine lv_isub hx hb dX5_turnRound_50 ?_
          refine lv_topi (fun x_712 ex_712 => ?_)
          have vx_712 : x_712.toInt = (-1) * p1.toInt + p2.toInt + z_705.toInt := by have q := ti_sub ex_712 vx_709 rfl (by omega) (by omega); omega
          refine lv_iadd hx hb dX5_turnRound_51 ?_
          refine lv_topi (fun x_713 ex_713 => ?_)
          have vx_713 : x_713.toInt = 4 * p0.toInt + (-1) * p1.toInt + p2.toInt + z_705.toInt := by have q := ti_add ex_713 vx_704 vx_712 (by omega) (by omega); omega
          refine va_iald hx hb hK hP 3 1 rfl rfl (ti_in vx_713 (by omega) (by omega)) dX5_turnRound_52 ?_
          refine lv_topi (fun x_714 ex_714 => ?_)
          have rg_x_714 := fb_rng x_714
          have kx_714 : (fT_order x_713.toNatClampNeg).toInt = x_714.toInt := by rw [ex_714]
          have ux_714 := a_fT_order _ (by have q := ti_cl (x := x_713) vx_713 (by omega); omega : x_713.toNatClampNeg < 72)
          rw [show fT_order x_713.toNatClampNeg = x_714 from ex_714.symm] at ux_714
          refine vi_iast (lo := 0) (hi := 3) hx hb hK hP hD hS 1 0 rfl rfl (ti_in vx_710 (by omega) (by omega)) a_f_706 (by omega) dX5_turnRound_53 (fun H locs f_715 a_f_715 hP hD hS => ?_)
          have hP : va_P (dC, dI) vwCl [(oS, .inr (5, [.ref rS_worths, .ref rS_order, .ref rS_left])), (rS_order, .inl (kS_order, 72, .inl f_715)), (oT, .inr (5, [.ref rT_worths, .ref rT_order, .ref rT_left])), (rT_order, .inl (kT_order, 72, .inl fT_order))] H := hP
          have hD : va_D A [(oS, .inr (5, [.ref rS_worths, .ref rS_order, .ref rS_left])), (rS_order, .inl (kS_order, 72, .inl f_715)), (oT, .inr (5, [.ref rT_worths, .ref rT_order, .ref rT_left])), (rT_order, .inl (kT_order, 72, .inl fT_order))] := hD
          obtain ⟨x_716, ex_716⟩ : ∃ z : Int32, z = z_705 + Int32.ofInt 1 := ⟨_, rfl⟩
          have vx_716 : x_716.toInt = z_705.toInt + 1 := by have q := ti_add (y := 1) ex_716 rfl kc_1 (by omega) (by omega); omega
          refine lv_iinc (v := x_716) (lv' := [(6, .int x_716), (7, .int x_709), (5, .int x_704), (0, .ref oS), (1, .ref oT), (2, .int p0), (3, .int p1), (4, .int p2)]) hx hb dX5_turnRound_54 hl (k := 1) rfl ex_716.symm (by decide) rfl (fun ls hl => ?_)
          refine lv_goto (tgt := 8) hx hb dX5_turnRound_57 (by decide) ?_
          exact ih_n_707 x_716 f_715 _ _ _ a_f_715 (by first | omega | decide | assumption) (by omega) (hP.sub [0, 1, 2, 3] rfl) (hD.sub [0, 1, 2, 3] (by decide) rfl) hS (lv_sub hl [0, 2, 3, 4, 5, 6, 7] rfl)
        · skip
          have gc_711 := ti_nle c_711 rfl vx_709
          refine lv_iload hx hb dX5_turnRound_42 (lv_at hl 0 rfl) ?_
          refine lv_goto (tgt := 51) hx hb dX5_turnRound_44 (by decide) ?_
          refine lv_iadd hx hb dX5_turnRound_51 ?_
          refine lv_topi (fun x_717 ex_717 => ?_)
          have vx_717 : x_717.toInt = 4 * p0.toInt + p2.toInt + z_705.toInt := by have q := ti_add ex_717 vx_704 vx_709 (by omega) (by omega); omega
          refine va_iald hx hb hK hP 3 1 rfl rfl (ti_in vx_717 (by omega) (by omega)) dX5_turnRound_52 ?_
          refine lv_topi (fun x_718 ex_718 => ?_)
          have rg_x_718 := fb_rng x_718
          have kx_718 : (fT_order x_717.toNatClampNeg).toInt = x_718.toInt := by rw [ex_718]
          have ux_718 := a_fT_order _ (by have q := ti_cl (x := x_717) vx_717 (by omega); omega : x_717.toNatClampNeg < 72)
          rw [show fT_order x_717.toNatClampNeg = x_718 from ex_718.symm] at ux_718
          refine vi_iast (lo := 0) (hi := 3) hx hb hK hP hD hS 1 0 rfl rfl (ti_in vx_710 (by omega) (by omega)) a_f_706 (by omega) dX5_turnRound_53 (fun H locs f_719 a_f_719 hP hD hS => ?_)
          have hP : va_P (dC, dI) vwCl [(oS, .inr (5, [.ref rS_worths, .ref rS_order, .ref rS_left])), (rS_order, .inl (kS_order, 72, .inl f_719)), (oT, .inr (5, [.ref rT_worths, .ref rT_order, .ref rT_left])), (rT_order, .inl (kT_order, 72, .inl fT_order))] H := hP
          have hD : va_D A [(oS, .inr (5, [.ref rS_worths, .ref rS_order, .ref rS_left])), (rS_order, .inl (kS_order, 72, .inl f_719)), (oT, .inr (5, [.ref rT_worths, .ref rT_order, .ref rT_left])), (rT_order, .inl (kT_order, 72, .inl fT_order))] := hD
          obtain ⟨x_720, ex_720⟩ : ∃ z : Int32, z = z_705 + Int32.ofInt 1 := ⟨_, rfl⟩
          have vx_720 : x_720.toInt = z_705.toInt + 1 := by have q := ti_add (y := 1) ex_720 rfl kc_1 (by omega) (by omega); omega
          refine lv_iinc (v := x_720) (lv' := [(6, .int x_720), (7, .int x_709), (5, .int x_704), (0, .ref oS), (1, .ref oT), (2, .int p0), (3, .int p1), (4, .int p2)]) hx hb dX5_turnRound_54 hl (k := 1) rfl ex_720.symm (by decide) rfl (fun ls hl => ?_)
          refine lv_goto (tgt := 8) hx hb dX5_turnRound_57 (by decide) ?_
          exact ih_n_707 x_720 f_719 _ _ _ a_f_719 (by first | omega | decide | assumption) (by omega) (hP.sub [0, 1, 2, 3] rfl) (hD.sub [0, 1, 2, 3] (by decide) rfl) hS (lv_sub hl [0, 2, 3, 4, 5, 6, 7] rfl)
  exact key_n_707 ((2147483647 - (0 : Int32).toInt).toNat + 1) 0 fS_order _ _ _ a_fS_order (by first | omega | decide | assumption | (have q0 := kc_0; have q1 := kc_1; omega)) (by omega) hP hD hS hl
