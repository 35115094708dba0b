set_option maxHeartbeats 4000000 in
set_option maxRecDepth 100000 in
theorem tX5_standAsTold (l : Launch) (dC : Nat → ClassId) (dI : Nat → Nat → Nat) (sz : Nat) (oS : Nat) (rS_worths : Nat) (fS_worths : Nat → Int32) (kS_worths : ClassId) (rS_order : Nat) (fS_order : Nat → Int32) (kS_order : ClassId) (rS_left : Nat) (oC : Nat) (iC_nodes : Int32) (iC_words : Int32) (iC_chances : Int32) (iC_unsures : Int32) (iC_slips : Int32) (iC_throneNode : Int32) (iC_saidWorth : Int32) (iC_unit : Int32) (rC_kind : Nat) (rC_parts : Nat) (rC_partNodes : Nat) (rC_weights : Nat) (rC_weightSums : Nat) (rC_toldWorths : Nat) (fC_toldWorths : Nat → Int32) (kC_toldWorths : ClassId) (rC_steps : Nat) (rC_below : Nat) (rC_above : Nat) (rC_unsureWords : Nat) (rC_unsureWorths : Nat) (a_fS_order : ∀ j : Nat, j < 72 → 0 ≤ (fS_order j).toInt ∧ (fS_order j).toInt ≤ 3) (b_iC_nodes : 0 ≤ iC_nodes.toInt ∧ iC_nodes.toInt ≤ 18) (b_iC_unsures : 0 ≤ iC_unsures.toInt ∧ iC_unsures.toInt ≤ 4)  : Met l yX5_standAsTold (Cond.code yX5_standAsTold cX5_standAsTold 4 none :: wG) ({ frames := 0, cells := 0, slots := 0, locals := 0 }) (va_Pc [.ref oS, .ref oC] (Pw dC dI sz [(oS, .inr (5, [.ref rS_worths, .ref rS_order, .ref rS_left])), (rS_worths, .inl (kS_worths, 18, .inl fS_worths)), (rS_order, .inl (kS_order, 72, .inl fS_order)), (oC, .inr (1, [.int iC_nodes, .int iC_words, .int iC_chances, .int iC_unsures, .int iC_slips, .int iC_throneNode, .int iC_saidWorth, .int iC_unit, .ref rC_kind, .ref rC_parts, .ref rC_partNodes, .ref rC_weights, .ref rC_weightSums, .ref rC_toldWorths, .ref rC_steps, .ref rC_below, .ref rC_above, .ref rC_unsureWords, .ref rC_unsureWorths])), (rC_toldWorths, .inl (kC_toldWorths, 18, .inl fC_toldWorths))] [(kS_worths, .int), (kS_order, .int), (kC_toldWorths, .int)])) (va_Qv (fun (_ : Nat) => True) (fun (_ : Nat) (t : State) => ∃ (nfS_worths : Nat → Int32) (nfS_order : Nat → Int32), (∀ j : Nat, j < 72 → 0 ≤ (nfS_order j).toInt ∧ (nfS_order j).toInt ≤ 3) ∧ Bw dC dI (va_A [(oS, .inr (5, [.ref rS_worths, .ref rS_order, .ref rS_left])), (rS_worths, .inl (kS_worths, 18, .inl fS_worths)), (rS_order, .inl (kS_order, 72, .inl fS_order)), (oC, .inr (1, [.int iC_nodes, .int iC_words, .int iC_chances, .int iC_unsures, .int iC_slips, .int iC_throneNode, .int iC_saidWorth, .int iC_unit, .ref rC_kind, .ref rC_parts, .ref rC_partNodes, .ref rC_weights, .ref rC_weightSums, .ref rC_toldWorths, .ref rC_steps, .ref rC_below, .ref rC_above, .ref rC_unsureWords, .ref rC_unsureWorths])), (rC_toldWorths, .inl (kC_toldWorths, 18, .inl fC_toldWorths))] sz) [(oS, .inr (5, [.ref rS_worths, .ref rS_order, .ref rS_left])), (rS_worths, .inl (kS_worths, 18, .inl nfS_worths)), (rS_order, .inl (kS_order, 72, .inl nfS_order)), (oC, .inr (1, [.int iC_nodes, .int iC_words, .int iC_chances, .int iC_unsures, .int iC_slips, .int iC_throneNode, .int iC_saidWorth, .int iC_unit, .ref rC_kind, .ref rC_parts, .ref rC_partNodes, .ref rC_weights, .ref rC_weightSums, .ref rC_toldWorths, .ref rC_steps, .ref rC_below, .ref rC_above, .ref rC_unsureWords, .ref rC_unsureWorths])), (rC_toldWorths, .inl (kC_toldWorths, 18, .inl fC_toldWorths))] [(kS_worths, .int), (kS_order, .int), (kC_toldWorths, .int)] t) (va_A [(oS, .inr (5, [.ref rS_worths, .ref rS_order, .ref rS_left])), (rS_worths, .inl (kS_worths, 18, .inl fS_worths)), (rS_order, .inl (kS_order, 72, .inl fS_order)), (oC, .inr (1, [.int iC_nodes, .int iC_words, .int iC_chances, .int iC_unsures, .int iC_slips, .int iC_throneNode, .int iC_saidWorth, .int iC_unit, .ref rC_kind, .ref rC_parts, .ref rC_partNodes, .ref rC_weights, .ref rC_weightSums, .ref rC_toldWorths, .ref rC_steps, .ref rC_below, .ref rC_above, .ref rC_unsureWords, .ref rC_unsureWorths])), (rC_toldWorths, .inl (kC_toldWorths, 18, .inl fC_toldWorths))] sz)) 0 0 (va_A [(oS, .inr (5, [.ref rS_worths, .ref rS_order, .ref rS_left])), (rS_worths, .inl (kS_worths, 18, .inl fS_worths)), (rS_order, .inl (kS_order, 72, .inl fS_order)), (oC, .inr (1, [.int iC_nodes, .int iC_words, .int iC_chances, .int iC_unsures, .int iC_slips, .int iC_throneNode, .int iC_saidWorth, .int iC_unit, .ref rC_kind, .ref rC_parts, .ref rC_partNodes, .ref rC_weights, .ref rC_weightSums, .ref rC_toldWorths, .ref rC_steps, .ref rC_below, .ref rC_above, .ref rC_unsureWords, .ref rC_unsureWorths])), (rC_toldWorths, .inl (kC_toldWorths, 18, .inl fC_toldWorths))] sz) := by
  refine Met.ofW (cc := cX5_standAsTold) (maxL := 4) (ret := none) (by decide) rfl ?_
  intro p e s m args below meth c s₁ B hml hv
  obtain ⟨rfl, hsz, hP, hK, hD0, hE⟩ := hv
  have hx := B.exec
  have hb := B.bytes
  have hr := B.returns
  have hts : ∀ w ∈ wG, w.before ([.ref oS, .ref oC] : List Value).toArray s = true := fun w h => atoms_spec (ws := Cond.code yX5_standAsTold cX5_standAsTold 4 none :: wG) B.pre w (List.mem_cons_of_mem _ h)
  have hown : s.vm.findClass RX5 = some m.cls := findClass_of_methodNamed B.named
  have hlocks := B.notSynchronized
  subst hsz
  have hD := hD0.self (sz := s.heap.size)
  generalize hAe : va_A [(oS, .inr (5, [.ref rS_worths, .ref rS_order, .ref rS_left])), (rS_worths, .inl (kS_worths, 18, .inl fS_worths)), (rS_order, .inl (kS_order, 72, .inl fS_order)), (oC, .inr (1, [.int iC_nodes, .int iC_words, .int iC_chances, .int iC_unsures, .int iC_slips, .int iC_throneNode, .int iC_saidWorth, .int iC_unit, .ref rC_kind, .ref rC_parts, .ref rC_partNodes, .ref rC_weights, .ref rC_weightSums, .ref rC_toldWorths, .ref rC_steps, .ref rC_below, .ref rC_above, .ref rC_unsureWords, .ref rC_unsureWorths])), (rC_toldWorths, .inl (kC_toldWorths, 18, .inl fC_toldWorths))] s.heap.size = A at hD hE ⊢
  have hA : ∀ q : Nat, s.heap.size ≤ q → A q := fun q h => by rw [← hAe]; exact Or.inr h
  have hS : va_S A s.heap s.heap [] := va_S.rf
  have hl := lv_entry ([.ref oS, .ref oC]) (n := 4) (Nat.le_of_ble_eq_true rfl)
  rw [lg_entry_eq]
  generalize (lg_sl ([.ref oS, .ref oC]) ++ List.replicate (4 - (lg_sl ([.ref oS, .ref oC])).length) Slot.unset).toArray = ls at hl ⊢
  have hl : lv_has ls 4 [(0, .ref oS), (1, .ref oC)] := hl
  refine lv_iconst (v := 0) hx hb dX5_standAsTold_0 (by decide) ?_
  refine lv_istore_n (lv' := [(2, .int 0), (0, .ref oS), (1, .ref oC)]) hx hb dX5_standAsTold_1 rfl hl (by decide) rfl (fun ls hl => ?_)
  have hl := lv_sub hl (l' := [(2, .int 0), (0, .ref oS), (1, .ref oC)]) [0, 1, 2] rfl
  have key_n_301 : ∀ (n_301 : Nat) (z_298 : Int32) (f_299 : Nat → Int32) (f_300 : Nat → Int32) (H : Heap) (locs : List Loc) (ls : Array Slot), (∀ j : Nat, j < 72 → 0 ≤ (f_300 j).toInt ∧ (f_300 j).toInt ≤ 3) → (0 ≤ z_298.toInt ∧ z_298.toInt ≤ 2147483647) → (2147483647 - z_298.toInt).toNat < n_301 → va_P (dC, dI) vwCl [(oS, .inr (5, [.ref rS_worths, .ref rS_order, .ref rS_left])), (rS_worths, .inl (kS_worths, 18, .inl f_299)), (rS_order, .inl (kS_order, 72, .inl f_300)), (oC, .inr (1, [.int iC_nodes, .int iC_words, .int iC_chances, .int iC_unsures, .int iC_slips, .int iC_throneNode, .int iC_saidWorth, .int iC_unit, .ref rC_kind, .ref rC_parts, .ref rC_partNodes, .ref rC_weights, .ref rC_weightSums, .ref rC_toldWorths, .ref rC_steps, .ref rC_below, .ref rC_above, .ref rC_unsureWords, .ref rC_unsureWorths])), (rC_toldWorths, .inl (kC_toldWorths, 18, .inl fC_toldWorths))] H → va_D A [(oS, .inr (5, [.ref rS_worths, .ref rS_order, .ref rS_left])), (rS_worths, .inl (kS_worths, 18, .inl f_299)), (rS_order, .inl (kS_order, 72, .inl f_300)), (oC, .inr (1, [.int iC_nodes, .int iC_words, .int iC_chances, .int iC_unsures, .int iC_slips, .int iC_throneNode, .int iC_saidWorth, .int iC_unit, .ref rC_kind, .ref rC_parts, .ref rC_partNodes, .ref rC_weights, .ref rC_weightSums, .ref rC_toldWorths, .ref rC_steps, .ref rC_below, .ref rC_above, .ref rC_unsureWords, .ref rC_unsureWorths])), (rC_toldWorths, .inl (kC_toldWorths, 18, .inl fC_toldWorths))] → va_S A s.heap H locs → lv_has ls 4 [(2, .int z_298), (0, .ref oS), (1, .ref oC)] → W p l e (headSpec (Cond.code yX5_standAsTold cX5_standAsTold 4 none :: wG) ({ frames := 0, cells := 0, slots := 0, locals := 0 })).room s m ([.ref oS, .ref oC] : List Value).toArray below meth c H locs 0 0 (MQ below (va_Qv (fun (_ : Nat) => True) (fun (_ : Nat) (t : State) => ∃ (nfS_worths : Nat → Int32) (nfS_order : Nat → Int32), (∀ j : Nat, j < 72 → 0 ≤ (nfS_order j).toInt ∧ (nfS_order j).toInt ≤ 3) ∧ Bw dC dI A [(oS, .inr (5, [.ref rS_worths, .ref rS_order, .ref rS_left])), (rS_worths, .inl (kS_worths, 18, .inl nfS_worths)), (rS_order, .inl (kS_order, 72, .inl nfS_order)), (oC, .inr (1, [.int iC_nodes, .int iC_words, .int iC_chances, .int iC_unsures, .int iC_slips, .int iC_throneNode, .int iC_saidWorth, .int iC_unit, .ref rC_kind, .ref rC_parts, .ref rC_partNodes, .ref rC_weights, .ref rC_weightSums, .ref rC_toldWorths, .ref rC_steps, .ref rC_below, .ref rC_above, .ref rC_unsureWords, .ref rC_unsureWorths])), (rC_toldWorths, .inl (kC_toldWorths, 18, .inl fC_toldWorths))] [(kS_worths, .int), (kS_order, .int), (kC_toldWorths, .int)] t) A) ([.ref oS, .ref oC] : List Value).toArray s 0 0 A) (F0 m 2 ls []) := by
    intro n_301
    induction n_301 with
    | zero => intro z_298 f_299 f_300 H locs ls a_f_300 hi0_n_301 hm; exact absurd hm (by omega)
    | succ n_301 ih_n_301 =>
      intro z_298 f_299 f_300 H locs ls a_f_300 hi0_n_301 hm hP hD hS hl
      have rg_z_298 := fb_rng z_298
      refine lv_iload_n hx hb dX5_standAsTold_2 rfl (lv_at hl 0 rfl) ?_
      refine lv_bipush (v := 18) hx hb dX5_standAsTold_3 (by decide) ?_
      refine lv_icmp_ge (tgt := 50) hx hb dX5_standAsTold_5 (by decide) (fun c_302 => ?_) (fun c_302 => ?_)
      · skip
        have gc_302 := ti_le c_302 kc_18 rfl
        have hP9 := hP.sub (ws' := [(oS, .inr (5, [.ref rS_worths, .ref rS_order, .ref rS_left])), (rS_worths, .inl (kS_worths, 18, .inl f_299)), (rS_order, .inl (kS_order, 72, .inl f_300)), (oC, .inr (1, [.int iC_nodes, .int iC_words, .int iC_chances, .int iC_unsures, .int iC_slips, .int iC_throneNode, .int iC_saidWorth, .int iC_unit, .ref rC_kind, .ref rC_parts, .ref rC_partNodes, .ref rC_weights, .ref rC_weightSums, .ref rC_toldWorths, .ref rC_steps, .ref rC_below, .ref rC_above, .ref rC_unsureWords, .ref rC_unsureWorths])), (rC_toldWorths, .inl (kC_toldWorths, 18, .inl fC_toldWorths))]) [0, 1, 2, 3, 4] rfl
        have hD9 := hD.sub (ws' := [(oS, .inr (5, [.ref rS_worths, .ref rS_order, .ref rS_left])), (rS_worths, .inl (kS_worths, 18, .inl f_299)), (rS_order, .inl (kS_order, 72, .inl f_300)), (oC, .inr (1, [.int iC_nodes, .int iC_words, .int iC_chances, .int iC_unsures, .int iC_slips, .int iC_throneNode, .int iC_saidWorth, .int iC_unit, .ref rC_kind, .ref rC_parts, .ref rC_partNodes, .ref rC_weights, .ref rC_weightSums, .ref rC_toldWorths, .ref rC_steps, .ref rC_below, .ref rC_above, .ref rC_unsureWords, .ref rC_unsureWorths])), (rC_toldWorths, .inl (kC_toldWorths, 18, .inl fC_toldWorths))]) [0, 1, 2, 3, 4] (by decide) rfl
        have hK9 := hK.sub (tys' := [(kS_worths, .int), (kS_order, .int), (kC_toldWorths, .int)]) [0, 1, 2] rfl
        exact W.vret hx hb hr (fun t ht hW => ⟨⟨0, rfl, trivial, ⟨f_299, f_300, a_f_300, Bw.to hP9 hD9 hK9 ht hW⟩⟩, hS.F ht⟩) hS.2.2 dX5_standAsTold_50
      · skip
        have gc_302 := ti_nle c_302 kc_18 rfl
        refine lv_aload_n hx hb dX5_standAsTold_8 rfl (lv_at hl 1 rfl) ?_
        refine va_get (D := (dC, dI)) (ci := 5) (v := .ref rS_worths) (C := RX5) (T := TX5) (N := 3) hx hb hts inX5 hown hK hP 0 rfl rfl 0 (by decide) (hts _ wd_128) (fun _ h9 => h9) rfl dX5_standAsTold_9 ?_
        refine lv_iload_n hx hb dX5_standAsTold_12 rfl (lv_at hl 0 rfl) ?_
        refine lv_aload_n hx hb dX5_standAsTold_13 rfl (lv_at hl 2 rfl) ?_
        refine va_get (D := (dC, dI)) (ci := 1) (v := .ref rC_toldWorths) (C := RX1) (T := TX1) (N := 19) hx hb hts inX1 hown hK hP 3 rfl rfl 13 (by decide) (hts _ wd_369) (fun _ h9 => h9) rfl dX5_standAsTold_14 ?_
        refine lv_iload_n hx hb dX5_standAsTold_17 rfl (lv_at hl 0 rfl) ?_
        refine va_iald hx hb hK hP 4 2 rfl rfl (ti_in rfl (by omega) (by omega)) dX5_standAsTold_18 ?_
        refine lv_topi (fun x_303 ex_303 => ?_)
        have rg_x_303 := fb_rng x_303
        have kx_303 : (fC_toldWorths z_298.toNatClampNeg).toInt = x_303.toInt := by rw [ex_303]
        refine vz_iast hx hb hK hP hD hS 1 0 rfl rfl (ti_in rfl (by omega) (by omega)) dX5_standAsTold_19 (fun H locs f_304 hP hD hS => ?_)
        have hP : va_P (dC, dI) vwCl [(oS, .inr (5, [.ref rS_worths, .ref rS_order, .ref rS_left])), (rS_worths, .inl (kS_worths, 18, .inl f_304)), (rS_order, .inl (kS_order, 72, .inl f_300)), (oC, .inr (1, [.int iC_nodes, .int iC_words, .int iC_chances, .int iC_unsures, .int iC_slips, .int iC_throneNode, .int iC_saidWorth, .int iC_unit, .ref rC_kind, .ref rC_parts, .ref rC_partNodes, .ref rC_weights, .ref rC_weightSums, .ref rC_toldWorths, .ref rC_steps, .ref rC_below, .ref rC_above, .ref rC_unsureWords, .ref rC_unsureWorths])), (rC_toldWorths, .inl (kC_toldWorths, 18, .inl fC_toldWorths))] H := hP
        have hD : va_D A [(oS, .inr (5, [.ref rS_worths, .ref rS_order, .ref rS_left])), (rS_worths, .inl (kS_worths, 18, .inl f_304)), (rS_order, .inl (kS_order, 72, .inl f_300)), (oC, .inr (1, [.int iC_nodes, .int iC_words, .int iC_chances, .int iC_unsures, .int iC_slips, .int iC_throneNode, .int iC_saidWorth, .int iC_unit, .ref rC_kind, .ref rC_parts, .ref rC_partNodes, .ref rC_weights, .ref rC_weightSums, .ref rC_toldWorths, .ref rC_steps, .ref rC_below, .ref rC_above, .ref rC_unsureWords, .ref rC_unsureWorths])), (rC_toldWorths, .inl (kC_toldWorths, 18, .inl fC_toldWorths))] := hD
        refine lv_iconst (v := 0) hx hb dX5_standAsTold_20 (by decide) ?_
        refine lv_istore_n (lv' := [(3, .int 0), (2, .int z_298), (0, .ref oS), (1, .ref oC)]) hx hb dX5_standAsTold_21 rfl hl (by decide) rfl (fun ls hl => ?_)
        have hl := lv_sub hl (l' := [(3, .int 0), (2, .int z_298), (0, .ref oS), (1, .ref oC)]) [0, 1, 2, 3] rfl
        have key_n_307 : ∀ (n_307 : Nat) (z_305 : Int32) (f_306 : Nat → Int32) (H : Heap) (locs : List Loc) (ls : Array Slot), (∀ j : Nat, j < 72 → 0 ≤ (f_306 j).toInt ∧ (f_306 j).toInt ≤ 3) → (0 ≤ z_305.toInt ∧ z_305.toInt ≤ 2147483647) → (2147483647 - z_305.toInt).toNat < n_307 → va_P (dC, dI) vwCl [(oS, .inr (5, [.ref rS_worths, .ref rS_order, .ref rS_left])), (rS_worths, .inl (kS_worths, 18, .inl f_304)), (rS_order, .inl (kS_order, 72, .inl f_306)), (oC, .inr (1, [.int iC_nodes, .int iC_words, .int iC_chances, .int iC_unsures, .int iC_slips, .int iC_throneNode, .int iC_saidWorth, .int iC_unit, .ref rC_kind, .ref rC_parts, .ref rC_partNodes, .ref rC_weights, .ref rC_weightSums, .ref rC_toldWorths, .ref rC_steps, .ref rC_below, .ref rC_above, .ref rC_unsureWords, .ref rC_unsureWorths])), (rC_toldWorths, .inl (kC_toldWorths, 18, .inl fC_toldWorths))] H → va_D A [(oS, .inr (5, [.ref rS_worths, .ref rS_order, .ref rS_left])), (rS_worths, .inl (kS_worths, 18, .inl f_304)), (rS_order, .inl (kS_order, 72, .inl f_306)), (oC, .inr (1, [.int iC_nodes, .int iC_words, .int iC_chances, .int iC_unsures, .int iC_slips, .int iC_throneNode, .int iC_saidWorth, .int iC_unit, .ref rC_kind, .ref rC_parts, .ref rC_partNodes, .ref rC_weights, .ref rC_weightSums, .ref rC_toldWorths, .ref rC_steps, .ref rC_below, .ref rC_above, .ref rC_unsureWords, .ref rC_unsureWorths])), (rC_toldWorths, .inl (kC_toldWorths, 18, .inl fC_toldWorths))] → va_S A s.heap H locs → lv_has ls 4 [(3, .int z_305), (2, .int z_298), (0, .ref oS), (1, .ref oC)] → W p l e (headSpec (Cond.code yX5_standAsTold cX5_standAsTold 4 none :: wG) ({ frames := 0, cells := 0, slots := 0, locals := 0 })).room s m ([.ref oS, .ref oC] : List Value).toArray below meth c H locs 0 0 (MQ below (va_Qv (fun (_ : Nat) => True) (fun (_ : Nat) (t : State) => ∃ (nfS_worths : Nat → Int32) (nfS_order : Nat → Int32), (∀ j : Nat, j < 72 → 0 ≤ (nfS_order j).toInt ∧ (nfS_order j).toInt ≤ 3) ∧ Bw dC dI A [(oS, .inr (5, [.ref rS_worths, .ref rS_order, .ref rS_left])), (rS_worths, .inl (kS_worths, 18, .inl nfS_worths)), (rS_order, .inl (kS_order, 72, .inl nfS_order)), (oC, .inr (1, [.int iC_nodes, .int iC_words, .int iC_chances, .int iC_unsures, .int iC_slips, .int iC_throneNode, .int iC_saidWorth, .int iC_unit, .ref rC_kind, .ref rC_parts, .ref rC_partNodes, .ref rC_weights, .ref rC_weightSums, .ref rC_toldWorths, .ref rC_steps, .ref rC_below, .ref rC_above, .ref rC_unsureWords, .ref rC_unsureWorths])), (rC_toldWorths, .inl (kC_toldWorths, 18, .inl fC_toldWorths))] [(kS_worths, .int), (kS_order, .int), (kC_toldWorths, .int)] t) A) ([.ref oS, .ref oC] : List Value).toArray s 0 0 A) (F0 m 22 ls []) := by
          intro n_307
          induction n_307 with
          | zero => intro z_305 f_306 H locs ls a_f_306 hi0_n_307 hm; exact absurd hm (by omega)
          | succ n_307 ih_n_307 =>
            intro z_305 f_306 H locs ls a_f_306 hi0_n_307 hm hP hD hS hl
            have rg_z_305 := fb_rng z_305
            refine lv_iload_n hx hb dX5_standAsTold_22 rfl (lv_at hl 0 rfl) ?_
            refine lv_iconst (v := 4) hx hb dX5_standAsTold_23 (by decide) ?_
            refine lv_icmp_ge (tgt := 44) hx hb dX5_standAsTold_24 (by decide) (fun c_308 => ?_) (fun c_308 => ?_)
            · skip
              have gc_308 := ti_le c_308 kc_4 rfl
              obtain ⟨x_309, ex_309⟩ : ∃ z : Int32, z = z_298 + Int32.ofInt 1 := ⟨_, rfl⟩
              have vx_309 : x_309.toInt = z_298.toInt + 1 := by have q := ti_add (y := 1) ex_309 rfl kc_1 (by omega) (by omega); omega
              refine lv_iinc (v := x_309) (lv' := [(2, .int x_309), (3, .int z_305), (0, .ref oS), (1, .ref oC)]) hx hb dX5_standAsTold_44 hl (k := 1) rfl ex_309.symm (by decide) rfl (fun ls hl => ?_)
              refine lv_goto (tgt := 2) hx hb dX5_standAsTold_47 (by decide) ?_
              exact ih_n_301 x_309 f_304 f_306 _ _ _ a_f_306 (by first | omega | decide) (by omega) (hP.sub [0, 1, 2, 3, 4] rfl) (hD.sub [0, 1, 2, 3, 4] (by decide) rfl) hS (lv_sub hl [0, 2, 3] rfl)
            · skip
              have gc_308 := ti_nle c_308 kc_4 rfl
              refine lv_aload_n hx hb dX5_standAsTold_27 rfl (lv_at hl 2 rfl) ?_
              refine va_get (D := (dC, dI)) (ci := 5) (v := .ref rS_order) (C := RX5) (T := TX5) (N := 3) hx hb hts inX5 hown hK hP 0 rfl rfl 1 (by decide) (hts _ wd_129) (fun _ h9 => h9) rfl dX5_standAsTold_28 ?_
              refine lv_iload_n hx hb dX5_standAsTold_31 rfl (lv_at hl 1 rfl) ?_
              refine lv_iconst (v := 4) hx hb dX5_standAsTold_32 (by decide) ?_
              refine lv_imul hx hb dX5_standAsTold_33 ?_
              refine lv_topi (fun x_310 ex_310 => ?_)
              have vx_310 : x_310.toInt = 4 * z_298.toInt := by have q := ti_mul ex_310 rfl kc_4 (by omega) (by omega); omega
              refine lv_iload_n hx hb dX5_standAsTold_34 rfl (lv_at hl 0 rfl) ?_
              refine lv_iadd hx hb dX5_standAsTold_35 ?_
              refine lv_topi (fun x_311 ex_311 => ?_)
              have vx_311 : x_311.toInt = 4 * z_298.toInt + z_305.toInt := by have q := ti_add ex_311 vx_310 rfl (by omega) (by omega); omega
              refine lv_iload_n hx hb dX5_standAsTold_36 rfl (lv_at hl 0 rfl) ?_
              refine vi_iast (lo := 0) (hi := 3) hx hb hK hP hD hS 2 1 rfl rfl (ti_in vx_311 (by omega) (by omega)) a_f_306 (by omega) dX5_standAsTold_37 (fun H locs f_312 a_f_312 hP hD hS => ?_)
              have hP : va_P (dC, dI) vwCl [(oS, .inr (5, [.ref rS_worths, .ref rS_order, .ref rS_left])), (rS_worths, .inl (kS_worths, 18, .inl f_304)), (rS_order, .inl (kS_order, 72, .inl f_312)), (oC, .inr (1, [.int iC_nodes, .int iC_words, .int iC_chances, .int iC_unsures, .int iC_slips, .int iC_throneNode, .int iC_saidWorth, .int iC_unit, .ref rC_kind, .ref rC_parts, .ref rC_partNodes, .ref rC_weights, .ref rC_weightSums, .ref rC_toldWorths, .ref rC_steps, .ref rC_below, .ref rC_above, .ref rC_unsureWords, .ref rC_unsureWorths])), (rC_toldWorths, .inl (kC_toldWorths, 18, .inl fC_toldWorths))] H := hP
              have hD : va_D A [(oS, .inr (5, [.ref rS_worths, .ref rS_order, .ref rS_left])), (rS_worths, .inl (kS_worths, 18, .inl f_304)), (rS_order, .inl (kS_order, 72, .inl f_312)), (oC, .inr (1, [.int iC_nodes, .int iC_words, .int iC_chances, .int iC_unsures, .int iC_slips, .int iC_throneNode, .int iC_saidWorth, .int iC_unit, .ref rC_kind, .ref rC_parts, .ref rC_partNodes, .ref rC_weights, .ref rC_weightSums, .ref rC_toldWorths, .ref rC_steps, .ref rC_below, .ref rC_above, .ref rC_unsureWords, .ref rC_unsureWorths])), (rC_toldWorths, .inl (kC_toldWorths, 18, .inl fC_toldWorths))] := hD
              obtain ⟨x_313, ex_313⟩ : ∃ z : Int32, z = z_305 + Int32.ofInt 1 := ⟨_, rfl⟩
              have vx_313 : x_313.toInt = z_305.toInt + 1 := by have q := ti_add (y := 1) ex_313 rfl kc_1 (by omega) (by omega); omega
              refine lv_iinc (v := x_313) (lv' := [(3, .int x_313), (2, .int z_298), (0, .ref oS), (1, .ref oC)]) hx hb dX5_standAsTold_38 hl (k := 0) rfl ex_313.symm (by decide) rfl (fun ls hl => ?_)
              refine lv_goto (tgt := 22) hx hb dX5_standAsTold_41 (by decide) ?_
              exact ih_n_307 x_313 f_312 _ _ _ a_f_312 (by first | omega | decide) (by omega) (hP.sub [0, 1, 2, 3, 4] rfl) (hD.sub [0, 1, 2, 3, 4] (by decide) rfl) hS (lv_sub hl [0, 1, 2, 3] rfl)
        exact key_n_307 ((2147483647 - (0 : Int32).toInt).toNat + 1) 0 f_300 _ _ _ a_f_300 (by first | omega | decide) (by omega) hP hD hS hl
  exact key_n_301 ((2147483647 - (0 : Int32).toInt).toNat + 1) 0 fS_worths fS_order _ _ _ a_fS_order (by first | omega | decide) (by omega) hP hD hS hl
set_option maxHeartbeats 4000000 in
set_option maxRecDepth 100000 in
theorem tX5_copyFrom (l : Launch) (dC : Nat → ClassId) (dI : Nat → Nat → Nat) (sz : Nat) (oS : Nat) (rS_worths : Nat) (fS_worths : Nat → Int32) (kS_worths : ClassId) (rS_order : Nat) (fS_order : Nat → Int32) (kS_order : ClassId) (rS_left : Nat) (oT : Nat) (rT_worths : Nat) (fT_worths : Nat → Int32) (kT_worths : ClassId) (rT_order : Nat) (fT_order : Nat → Int32) (kT_order : ClassId) (rT_left : Nat) (a_fS_order : ∀ j : Nat, j < 72 → 0 ≤ (fS_order j).toInt ∧ (fS_order j).toInt ≤ 3) (a_fT_order : ∀ j : Nat, j < 72 → 0 ≤ (fT_order j).toInt ∧ (fT_order j).toInt ≤ 3)  : Met l yX5_copyFrom (Cond.code yX5_copyFrom cX5_copyFrom 2 none :: wG) ({ frames := 1, cells := 0, slots := 0, locals := 64 }) (va_Pc [.ref oS, .ref oT] (Pw dC dI sz [(oS, .inr (5, [.ref rS_worths, .ref rS_order, .ref rS_left])), (rS_worths, .inl (kS_worths, 18, .inl fS_worths)), (rS_order, .inl (kS_order, 72, .inl fS_order)), (oT, .inr (5, [.ref rT_worths, .ref rT_order, .ref rT_left])), (rT_worths, .inl (kT_worths, 18, .inl fT_worths)), (rT_order, .inl (kT_order, 72, .inl fT_order))] [(kS_worths, .int), (kS_order, .int), (kT_worths, .int), (kT_order, .int)])) (va_Qv (fun (_ : Nat) => True) (fun (_ : Nat) (t : State) => ∃ (nfS_worths : Nat → Int32) (nfS_order : Nat → Int32), (∀ j : Nat, j < 72 → 0 ≤ (nfS_order j).toInt ∧ (nfS_order j).toInt ≤ 3) ∧ Bw dC dI (va_A [(oS, .inr (5, [.ref rS_worths, .ref rS_order, .ref rS_left])), (rS_worths, .inl (kS_worths, 18, .inl fS_worths)), (rS_order, .inl (kS_order, 72, .inl fS_order)), (oT, .inr (5, [.ref rT_worths, .ref rT_order, .ref rT_left])), (rT_worths, .inl (kT_worths, 18, .inl fT_worths)), (rT_order, .inl (kT_order, 72, .inl fT_order))] sz) [(oS, .inr (5, [.ref rS_worths, .ref rS_order, .ref rS_left])), (rS_worths, .inl (kS_worths, 18, .inl nfS_worths)), (rS_order, .inl (kS_order, 72, .inl nfS_order)), (oT, .inr (5, [.ref rT_worths, .ref rT_order, .ref rT_left])), (rT_worths, .inl (kT_worths, 18, .inl fT_worths)), (rT_order, .inl (kT_order, 72, .inl fT_order))] [(kS_worths, .int), (kS_order, .int), (kT_worths, .int), (kT_order, .int)] t) (va_A [(oS, .inr (5, [.ref rS_worths, .ref rS_order, .ref rS_left])), (rS_worths, .inl (kS_worths, 18, .inl fS_worths)), (rS_order, .inl (kS_order, 72, .inl fS_order)), (oT, .inr (5, [.ref rT_worths, .ref rT_order, .ref rT_left])), (rT_worths, .inl (kT_worths, 18, .inl fT_worths)), (rT_order, .inl (kT_order, 72, .inl fT_order))] sz)) 0 0 (va_A [(oS, .inr (5, [.ref rS_worths, .ref rS_order, .ref rS_left])), (rS_worths, .inl (kS_worths, 18, .inl fS_worths)), (rS_order, .inl (kS_order, 72, .inl fS_order)), (oT, .inr (5, [.ref rT_worths, .ref rT_order, .ref rT_left])), (rT_worths, .inl (kT_worths, 18, .inl fT_worths)), (rT_order, .inl (kT_order, 72, .inl fT_order))] sz) := by
  refine Met.ofW (cc := cX5_copyFrom) (maxL := 2) (ret := none) (by decide) rfl ?_
  intro p e s m args below meth c s₁ B hml hv
  obtain ⟨rfl, hsz, hP, hK, hD0, hE⟩ := hv
  have hx := B.exec
  have hb := B.bytes
  have hr := B.returns
  have hts : ∀ w ∈ wG, w.before ([.ref oS, .ref oT] : List Value).toArray s = true := fun w h => atoms_spec (ws := Cond.code yX5_copyFrom cX5_copyFrom 2 none :: wG) B.pre w (List.mem_cons_of_mem _ h)
  have hown : s.vm.findClass RX5 = some m.cls := findClass_of_methodNamed B.named
  have hlocks := B.notSynchronized
  subst hsz
  have hD := hD0.self (sz := s.heap.size)
  generalize hAe : va_A [(oS, .inr (5, [.ref rS_worths, .ref rS_order, .ref rS_left])), (rS_worths, .inl (kS_worths, 18, .inl fS_worths)), (rS_order, .inl (kS_order, 72, .inl fS_order)), (oT, .inr (5, [.ref rT_worths, .ref rT_order, .ref rT_left])), (rT_worths, .inl (kT_worths, 18, .inl fT_worths)), (rT_order, .inl (kT_order, 72, .inl fT_order))] s.heap.size = A at hD hE ⊢
  have hA : ∀ q : Nat, s.heap.size ≤ q → A q := fun q h => by rw [← hAe]; exact Or.inr h
  have hS : va_S A s.heap s.heap [] := va_S.rf
  have hl := lv_entry ([.ref oS, .ref oT]) (n := 2) (Nat.le_of_ble_eq_true rfl)
  rw [lg_entry_eq]
  generalize (lg_sl ([.ref oS, .ref oT]) ++ List.replicate (2 - (lg_sl ([.ref oS, .ref oT])).length) Slot.unset).toArray = ls at hl ⊢
  have hl : lv_has ls 2 [(0, .ref oS), (1, .ref oT)] := hl
  refine lv_aload_n hx hb dX5_copyFrom_0 rfl (lv_at hl 1 rfl) ?_
  refine va_get (D := (dC, dI)) (ci := 5) (v := .ref rT_worths) (C := RX5) (T := TX5) (N := 3) hx hb hts inX5 hown hK hP 3 rfl rfl 0 (by decide) (hts _ wd_128) (fun _ h9 => h9) rfl dX5_copyFrom_1 ?_
  refine lv_iconst (v := 0) hx hb dX5_copyFrom_4 (by decide) ?_
  refine lv_aload_n hx hb dX5_copyFrom_5 rfl (lv_at hl 0 rfl) ?_
  refine va_get (D := (dC, dI)) (ci := 5) (v := .ref rS_worths) (C := RX5) (T := TX5) (N := 3) hx hb hts inX5 hown hK hP 0 rfl rfl 0 (by decide) (hts _ wd_128) (fun _ h9 => h9) rfl dX5_copyFrom_6 ?_
  refine lv_iconst (v := 0) hx hb dX5_copyFrom_9 (by decide) ?_
  refine lv_bipush (v := 18) hx hb dX5_copyFrom_10 (by decide) ?_
  refine vz_copyi hx hb (hml.trans hl.1.symm) hown (hts _ wd_1015) (hts _ wd_1016) (hts _ wd_1017) (hts _ wd_1018) hK hP hD hS 4 1 2 0 rfl rfl rfl rfl (k := 18) (by decide) (by decide) (Nat.le_of_ble_eq_true rfl) (Nat.le_of_ble_eq_true (by decide +kernel)) dX5_copyFrom_12 (fun H locs f_316 c_f_316 hP hD hS => ?_)
  have hP : va_P (dC, dI) vwCl [(oS, .inr (5, [.ref rS_worths, .ref rS_order, .ref rS_left])), (rS_worths, .inl (kS_worths, 18, .inl f_316)), (rS_order, .inl (kS_order, 72, .inl fS_order)), (oT, .inr (5, [.ref rT_worths, .ref rT_order, .ref rT_left])), (rT_worths, .inl (kT_worths, 18, .inl fT_worths)), (rT_order, .inl (kT_order, 72, .inl fT_order))] H := hP
  have hD : va_D A [(oS, .inr (5, [.ref rS_worths, .ref rS_order, .ref rS_left])), (rS_worths, .inl (kS_worths, 18, .inl f_316)), (rS_order, .inl (kS_order, 72, .inl fS_order)), (oT, .inr (5, [.ref rT_worths, .ref rT_order, .ref rT_left])), (rT_worths, .inl (kT_worths, 18, .inl fT_worths)), (rT_order, .inl (kT_order, 72, .inl fT_order))] := hD
  refine lv_aload_n hx hb dX5_copyFrom_15 rfl (lv_at hl 1 rfl) ?_
  refine va_get (D := (dC, dI)) (ci := 5) (v := .ref rT_order) (C := RX5) (T := TX5) (N := 3) hx hb hts inX5 hown hK hP 3 rfl rfl 1 (by decide) (hts _ wd_129) (fun _ h9 => h9) rfl dX5_copyFrom_16 ?_
  refine lv_iconst (v := 0) hx hb dX5_copyFrom_19 (by decide) ?_
  refine lv_aload_n hx hb dX5_copyFrom_20 rfl (lv_at hl 0 rfl) ?_
  refine va_get (D := (dC, dI)) (ci := 5) (v := .ref rS_order) (C := RX5) (T := TX5) (N := 3) hx hb hts inX5 hown hK hP 0 rfl rfl 1 (by decide) (hts _ wd_129) (fun _ h9 => h9) rfl dX5_copyFrom_21 ?_
  refine lv_iconst (v := 0) hx hb dX5_copyFrom_24 (by decide) ?_
  refine lv_bipush (v := 72) hx hb dX5_copyFrom_25 (by decide) ?_
  refine vz_copyi hx hb (hml.trans hl.1.symm) hown (hts _ wd_1015) (hts _ wd_1016) (hts _ wd_1017) (hts _ wd_1018) hK hP hD hS 5 2 3 1 rfl rfl rfl rfl (k := 72) (by decide) (by decide) (Nat.le_of_ble_eq_true rfl) (Nat.le_of_ble_eq_true (by decide +kernel)) dX5_copyFrom_27 (fun H locs f_317 c_f_317 hP hD hS => ?_)
  have a_f_317 := c_f_317 0 3 a_fT_order a_fS_order
  have hP : va_P (dC, dI) vwCl [(oS, .inr (5, [.ref rS_worths, .ref rS_order, .ref rS_left])), (rS_worths, .inl (kS_worths, 18, .inl f_316)), (rS_order, .inl (kS_order, 72, .inl f_317)), (oT, .inr (5, [.ref rT_worths, .ref rT_order, .ref rT_left])), (rT_worths, .inl (kT_worths, 18, .inl fT_worths)), (rT_order, .inl (kT_order, 72, .inl fT_order))] H := hP
  have hD : va_D A [(oS, .inr (5, [.ref rS_worths, .ref rS_order, .ref rS_left])), (rS_worths, .inl (kS_worths, 18, .inl f_316)), (rS_order, .inl (kS_order, 72, .inl f_317)), (oT, .inr (5, [.ref rT_worths, .ref rT_order, .ref rT_left])), (rT_worths, .inl (kT_worths, 18, .inl fT_worths)), (rT_order, .inl (kT_order, 72, .inl fT_order))] := hD
  have hP9 := hP.sub (ws' := [(oS, .inr (5, [.ref rS_worths, .ref rS_order, .ref rS_left])), (rS_worths, .inl (kS_worths, 18, .inl f_316)), (rS_order, .inl (kS_order, 72, .inl f_317)), (oT, .inr (5, [.ref rT_worths, .ref rT_order, .ref rT_left])), (rT_worths, .inl (kT_worths, 18, .inl fT_worths)), (rT_order, .inl (kT_order, 72, .inl fT_order))]) [0, 1, 2, 3, 4, 5] rfl
  have hD9 := hD.sub (ws' := [(oS, .inr (5, [.ref rS_worths, .ref rS_order, .ref rS_left])), (rS_worths, .inl (kS_worths, 18, .inl f_316)), (rS_order, .inl (kS_order, 72, .inl f_317)), (oT, .inr (5, [.ref rT_worths, .ref rT_order, .ref rT_left])), (rT_worths, .inl (kT_worths, 18, .inl fT_worths)), (rT_order, .inl (kT_order, 72, .inl fT_order))]) [0, 1, 2, 3, 4, 5] (by decide) rfl
  have hK9 := hK.sub (tys' := [(kS_worths, .int), (kS_order, .int), (kT_worths, .int), (kT_order, .int)]) [0, 1, 2, 3] rfl
  exact W.vret hx hb hr (fun t ht hW => ⟨⟨0, rfl, trivial, ⟨f_316, f_317, a_f_317, Bw.to hP9 hD9 hK9 ht hW⟩⟩, hS.F ht⟩) hS.2.2 dX5_copyFrom_30
set_option maxHeartbeats 4000000 in
set_option maxRecDepth 100000 in
theorem tX5_partAt (l : Launch) (dC : Nat → ClassId) (dI : Nat → Nat → Nat) (sz : Nat) (oS : Nat) (rS_worths : Nat) (rS_order : Nat) (fS_order : Nat → Int32) (kS_order : ClassId) (rS_left : Nat) (oC : Nat) (iC_nodes : Int32) (iC_words : Int32) (iC_chances : Int32) (iC_unsures : Int32) (iC_slips : Int32) (iC_throneNode : Int32) (iC_saidWorth : Int32) (iC_unit : Int32) (rC_kind : Nat) (rC_parts : Nat) (rC_partNodes : Nat) (fC_partNodes : Nat → Int32) (kC_partNodes : ClassId) (rC_weights : Nat) (rC_weightSums : Nat) (rC_toldWorths : Nat) (rC_steps : Nat) (rC_below : Nat) (rC_above : Nat) (rC_unsureWords : Nat) (rC_unsureWorths : Nat) (p0 : Int32) (p1 : Int32) (a_fS_order : ∀ j : Nat, j < 72 → 0 ≤ (fS_order j).toInt ∧ (fS_order j).toInt ≤ 3) (b_iC_nodes : 0 ≤ iC_nodes.toInt ∧ iC_nodes.toInt ≤ 18) (b_iC_unsures : 0 ≤ iC_unsures.toInt ∧ iC_unsures.toInt ≤ 4) (a_fC_partNodes : ∀ j : Nat, j < 72 → 0 ≤ (fC_partNodes j).toInt ∧ (fC_partNodes j).toInt ≤ 17) (hp0 : 0 ≤ p0.toInt ∧ p0.toInt ≤ 17) (hp1 : 0 ≤ p1.toInt ∧ p1.toInt ≤ 3) : Met l yX5_partAt (Cond.code yX5_partAt cX5_partAt 4 (some .int) :: wG) ({ frames := 0, cells := 0, slots := 0, locals := 0 }) (va_Pc [.ref oS, .ref oC, .int p0, .int p1] (Pw dC dI sz [(oS, .inr (5, [.ref rS_worths, .ref rS_order, .ref rS_left])), (rS_order, .inl (kS_order, 72, .inl fS_order)), (oC, .inr (1, [.int iC_nodes, .int iC_words, .int iC_chances, .int iC_unsures, .int iC_slips, .int iC_throneNode, .int iC_saidWorth, .int iC_unit, .ref rC_kind, .ref rC_parts, .ref rC_partNodes, .ref rC_weights, .ref rC_weightSums, .ref rC_toldWorths, .ref rC_steps, .ref rC_below, .ref rC_above, .ref rC_unsureWords, .ref rC_unsureWorths])), (rC_partNodes, .inl (kC_partNodes, 72, .inl fC_partNodes))] [(kS_order, .int), (kC_partNodes, .int)])) (va_Qi (fun (r : Int32) (_ : Nat) => True ∧ (0 ≤ r.toInt ∧ r.toInt ≤ 17)) (fun (_ : Nat) (t : State) => Bw dC dI (va_A [(oS, .inr (5, [.ref rS_worths, .ref rS_order, .ref rS_left])), (rS_order, .inl (kS_order, 72, .inl fS_order)), (oC, .inr (1, [.int iC_nodes, .int iC_words, .int iC_chances, .int iC_unsures, .int iC_slips, .int iC_throneNode, .int iC_saidWorth, .int iC_unit, .ref rC_kind, .ref rC_parts, .ref rC_partNodes, .ref rC_weights, .ref rC_weightSums, .ref rC_toldWorths, .ref rC_steps, .ref rC_below, .ref rC_above, .ref rC_unsureWords, .ref rC_unsureWorths])), (rC_partNodes, .inl (kC_partNodes, 72, .inl fC_partNodes))] sz) [(oS, .inr (5, [.ref rS_worths, .ref rS_order, .ref rS_left])), (rS_order, .inl (kS_order, 72, .inl fS_order)), (oC, .inr (1, [.int iC_nodes, .int iC_words, .int iC_chances, .int iC_unsures, .int iC_slips, .int iC_throneNode, .int iC_saidWorth, .int iC_unit, .ref rC_kind, .ref rC_parts, .ref rC_partNodes, .ref rC_weights, .ref rC_weightSums, .ref rC_toldWorths, .ref rC_steps, .ref rC_below, .ref rC_above, .ref rC_unsureWords, .ref rC_unsureWorths])), (rC_partNodes, .inl (kC_partNodes, 72, .inl fC_partNodes))] [(kS_order, .int), (kC_partNodes, .int)] t) (va_A [(oS, .inr (5, [.ref rS_worths, .ref rS_order, .ref rS_left])), (rS_order, .inl (kS_order, 72, .inl fS_order)), (oC, .inr (1, [.int iC_nodes, .int iC_words, .int iC_chances, .int iC_unsures, .int iC_slips, .int iC_throneNode, .int iC_saidWorth, .int iC_unit, .ref rC_kind, .ref rC_parts, .ref rC_partNodes, .ref rC_weights, .ref rC_weightSums, .ref rC_toldWorths, .ref rC_steps, .ref rC_below, .ref rC_above, .ref rC_unsureWords, .ref rC_unsureWorths])), (rC_partNodes, .inl (kC_partNodes, 72, .inl fC_partNodes))] sz)) 0 0 (va_A [(oS, .inr (5, [.ref rS_worths, .ref rS_order, .ref rS_left])), (rS_order, .inl (kS_order, 72, .inl fS_order)), (oC, .inr (1, [.int iC_nodes, .int iC_words, .int iC_chances, .int iC_unsures, .int iC_slips, .int iC_throneNode, .int iC_saidWorth, .int iC_unit, .ref rC_kind, .ref rC_parts, .ref rC_partNodes, .ref rC_weights, .ref rC_weightSums, .ref rC_toldWorths, .ref rC_steps, .ref rC_below, .ref rC_above, .ref rC_unsureWords, .ref rC_unsureWorths])), (rC_partNodes, .inl (kC_partNodes, 72, .inl fC_partNodes))] sz) := by
  refine Met.ofW (cc := cX5_partAt) (maxL := 4) (ret := (some .int)) (by decide) rfl ?_
  intro p e s m args below meth c s₁ B hml hv
  obtain ⟨rfl, hsz, hP, hK, hD0, hE⟩ := hv
  have hx := B.exec
  have hb := B.bytes
  have hr := B.returns
  have hts : ∀ w ∈ wG, w.before ([.ref oS, .ref oC, .int p0, .int p1] : List Value).toArray s = true := fun w h => atoms_spec (ws := Cond.code yX5_partAt cX5_partAt 4 (some .int) :: wG) B.pre w (List.mem_cons_of_mem _ h)
  have hown : s.vm.findClass RX5 = some m.cls := findClass_of_methodNamed B.named
  have hlocks := B.notSynchronized
  subst hsz
  have hD := hD0.self (sz := s.heap.size)
  generalize hAe : va_A [(oS, .inr (5, [.ref rS_worths, .ref rS_order, .ref rS_left])), (rS_order, .inl (kS_order, 72, .inl fS_order)), (oC, .inr (1, [.int iC_nodes, .int iC_words, .int iC_chances, .int iC_unsures, .int iC_slips, .int iC_throneNode, .int iC_saidWorth, .int iC_unit, .ref rC_kind, .ref rC_parts, .ref rC_partNodes, .ref rC_weights, .ref rC_weightSums, .ref rC_toldWorths, .ref rC_steps, .ref rC_below, .ref rC_above, .ref rC_unsureWords, .ref rC_unsureWorths])), (rC_partNodes, .inl (kC_partNodes, 72, .inl fC_partNodes))] s.heap.size = A at hD hE ⊢
  have hA : ∀ q : Nat, s.heap.size ≤ q → A q := fun q h => by rw [← hAe]; exact Or.inr h
  have hS : va_S A s.heap s.heap [] := va_S.rf
  have hl := lv_entry ([.ref oS, .ref oC, .int p0, .int p1]) (n := 4) (Nat.le_of_ble_eq_true rfl)
  rw [lg_entry_eq]
  generalize (lg_sl ([.ref oS, .ref oC, .int p0, .int p1]) ++ List.replicate (4 - (lg_sl ([.ref oS, .ref oC, .int p0, .int p1])).length) Slot.unset).toArray = ls at hl ⊢
  have hl : lv_has ls 4 [(0, .ref oS), (1, .ref oC), (2, .int p0), (3, .int p1)] := hl
  have rg_p0 := fb_rng p0
  have rg_p1 := fb_rng p1
  refine lv_aload_n hx hb dX5_partAt_0 rfl (lv_at hl 1 rfl) ?_
  refine va_get (D := (dC, dI)) (ci := 1) (v := .ref rC_partNodes) (C := RX1) (T := TX1) (N := 19) hx hb hts inX1 hown hK hP 2 rfl rfl 10 (by decide) (hts _ wd_572) (fun _ h9 => h9) rfl dX5_partAt_1 ?_
  refine lv_iload_n hx hb dX5_partAt_4 rfl (lv_at hl 2 rfl) ?_
  refine lv_iconst (v := 4) hx hb dX5_partAt_5 (by decide) ?_
  refine lv_imul hx hb dX5_partAt_6 ?_
  refine lv_topi (fun x_324 ex_324 => ?_)
  have vx_324 : x_324.toInt = 4 * p0.toInt := by have q := ti_mul ex_324 rfl kc_4 (by omega) (by omega); omega
  refine lv_aload_n hx hb dX5_partAt_7 rfl (lv_at hl 0 rfl) ?_
  refine va_get (D := (dC, dI)) (ci := 5) (v := .ref rS_order) (C := RX5) (T := TX5) (N := 3) hx hb hts inX5 hown hK hP 0 rfl rfl 1 (by decide) (hts _ wd_129) (fun _ h9 => h9) rfl dX5_partAt_8 ?_
  refine lv_iload_n hx hb dX5_partAt_11 rfl (lv_at hl 2 rfl) ?_
  refine lv_iconst (v := 4) hx hb dX5_partAt_12 (by decide) ?_
  refine lv_imul hx hb dX5_partAt_13 ?_
  refine lv_topi (fun x_325 ex_325 => ?_)
  have vx_325 : x_325.toInt = 4 * p0.toInt := by have q := ti_mul ex_325 rfl kc_4 (by omega) (by omega); omega
  refine lv_iload_n hx hb dX5_partAt_14 rfl (lv_at hl 3 rfl) ?_
  refine lv_iadd hx hb dX5_partAt_15 ?_
  refine lv_topi (fun x_326 ex_326 => ?_)
  have vx_326 : x_326.toInt = 4 * p0.toInt + p1.toInt := by have q := ti_add ex_326 vx_325 rfl (by omega) (by omega); omega
  refine va_iald hx hb hK hP 1 0 rfl rfl (ti_in vx_326 (by omega) (by omega)) dX5_partAt_16 ?_
  refine lv_topi (fun x_327 ex_327 => ?_)
  have rg_x_327 := fb_rng x_327
  have kx_327 : (fS_order x_326.toNatClampNeg).toInt = x_327.toInt := by rw [ex_327]
  have ux_327 := a_fS_order _ (by have q := ti_cl (x := x_326) vx_326 (by omega); omega : x_326.toNatClampNeg < 72)
  rw [show fS_order x_326.toNatClampNeg = x_327 from ex_327.symm] at ux_327
  refine lv_iadd hx hb dX5_partAt_17 ?_
  refine lv_topi (fun x_328 ex_328 => ?_)
  have vx_328 : x_328.toInt = 4 * p0.toInt + x_327.toInt := by have q := ti_add ex_328 vx_324 rfl (by omega) (by omega); omega
  refine va_iald hx hb hK hP 3 1 rfl rfl (ti_in vx_328 (by omega) (by omega)) dX5_partAt_18 ?_
  refine lv_topi (fun x_329 ex_329 => ?_)
  have rg_x_329 := fb_rng x_329
  have kx_329 : (fC_partNodes x_328.toNatClampNeg).toInt = x_329.toInt := by rw [ex_329]
  have ux_329 := a_fC_partNodes _ (by have q := ti_cl (x := x_328) vx_328 (by omega); omega : x_328.toNatClampNeg < 72)
  rw [show fC_partNodes x_328.toNatClampNeg = x_329 from ex_329.symm] at ux_329
  have hP9 := hP.sub (ws' := [(oS, .inr (5, [.ref rS_worths, .ref rS_order, .ref rS_left])), (rS_order, .inl (kS_order, 72, .inl fS_order)), (oC, .inr (1, [.int iC_nodes, .int iC_words, .int iC_chances, .int iC_unsures, .int iC_slips, .int iC_throneNode, .int iC_saidWorth, .int iC_unit, .ref rC_kind, .ref rC_parts, .ref rC_partNodes, .ref rC_weights, .ref rC_weightSums, .ref rC_toldWorths, .ref rC_steps, .ref rC_below, .ref rC_above, .ref rC_unsureWords, .ref rC_unsureWorths])), (rC_partNodes, .inl (kC_partNodes, 72, .inl fC_partNodes))]) [0, 1, 2, 3] rfl
  have hD9 := hD.sub (ws' := [(oS, .inr (5, [.ref rS_worths, .ref rS_order, .ref rS_left])), (rS_order, .inl (kS_order, 72, .inl fS_order)), (oC, .inr (1, [.int iC_nodes, .int iC_words, .int iC_chances, .int iC_unsures, .int iC_slips, .int iC_throneNode, .int iC_saidWorth, .int iC_unit, .ref rC_kind, .ref rC_parts, .ref rC_partNodes, .ref rC_weights, .ref rC_weightSums, .ref rC_toldWorths, .ref rC_steps, .ref rC_below, .ref rC_above, .ref rC_unsureWords, .ref rC_unsureWorths])), (rC_partNodes, .inl (kC_partNodes, 72, .inl fC_partNodes))]) [0, 1, 2, 3] (by decide) rfl
  have hK9 := hK.sub (tys' := [(kS_order, .int), (kC_partNodes, .int)]) [0, 1] rfl
  exact W.iret hx hb hr (fun t ht hW => ⟨⟨_, 0, rfl, ⟨trivial, (by omega)⟩, Bw.to hP9 hD9 hK9 ht hW⟩, hS.F ht⟩) hS.2.2 dX5_partAt_19
set_option maxHeartbeats 4000000 in
set_option maxRecDepth 100000 in
theorem tX5_weightAt (l : Launch) (dC : Nat → ClassId) (dI : Nat → Nat → Nat) (sz : Nat) (oS : Nat) (rS_worths : Nat) (rS_order : Nat) (fS_order : Nat → Int32) (kS_order : ClassId) (rS_left : Nat) (oC : Nat) (iC_nodes : Int32) (iC_words : Int32) (iC_chances : Int32) (iC_unsures : Int32) (iC_slips : Int32) (iC_throneNode : Int32) (iC_saidWorth : Int32) (iC_unit : Int32) (rC_kind : Nat) (rC_parts : Nat) (rC_partNodes : Nat) (rC_weights : Nat) (fC_weights : Nat → Int32) (kC_weights : ClassId) (rC_weightSums : Nat) (rC_toldWorths : Nat) (rC_steps : Nat) (rC_below : Nat) (rC_above : Nat) (rC_unsureWords : Nat) (rC_unsureWorths : Nat) (p0 : Int32) (p1 : Int32) (a_fS_order : ∀ j : Nat, j < 72 → 0 ≤ (fS_order j).toInt ∧ (fS_order j).toInt ≤ 3) (b_iC_nodes : 0 ≤ iC_nodes.toInt ∧ iC_nodes.toInt ≤ 18) (b_iC_unsures : 0 ≤ iC_unsures.toInt ∧ iC_unsures.toInt ≤ 4) (hp0 : 0 ≤ p0.toInt ∧ p0.toInt ≤ 17) (hp1 : 0 ≤ p1.toInt ∧ p1.toInt ≤ 3) : Met l yX5_weightAt (Cond.code yX5_weightAt cX5_weightAt 4 (some .int) :: wG) ({ frames := 0, cells := 0, slots := 0, locals := 0 }) (va_Pc [.ref oS, .ref oC, .int p0, .int p1] (Pw dC dI sz [(oS, .inr (5, [.ref rS_worths, .ref rS_order, .ref rS_left])), (rS_order, .inl (kS_order, 72, .inl fS_order)), (oC, .inr (1, [.int iC_nodes, .int iC_words, .int iC_chances, .int iC_unsures, .int iC_slips, .int iC_throneNode, .int iC_saidWorth, .int iC_unit, .ref rC_kind, .ref rC_parts, .ref rC_partNodes, .ref rC_weights, .ref rC_weightSums, .ref rC_toldWorths, .ref rC_steps, .ref rC_below, .ref rC_above, .ref rC_unsureWords, .ref rC_unsureWorths])), (rC_weights, .inl (kC_weights, 72, .inl fC_weights))] [(kS_order, .int), (kC_weights, .int)])) (va_Qi (fun (r : Int32) (_ : Nat) => True ∧ True) (fun (_ : Nat) (t : State) => Bw dC dI (va_A [(oS, .inr (5, [.ref rS_worths, .ref rS_order, .ref rS_left])), (rS_order, .inl (kS_order, 72, .inl fS_order)), (oC, .inr (1, [.int iC_nodes, .int iC_words, .int iC_chances, .int iC_unsures, .int iC_slips, .int iC_throneNode, .int iC_saidWorth, .int iC_unit, .ref rC_kind, .ref rC_parts, .ref rC_partNodes, .ref rC_weights, .ref rC_weightSums, .ref rC_toldWorths, .ref rC_steps, .ref rC_below, .ref rC_above, .ref rC_unsureWords, .ref rC_unsureWorths])), (rC_weights, .inl (kC_weights, 72, .inl fC_weights))] sz) [(oS, .inr (5, [.ref rS_worths, .ref rS_order, .ref rS_left])), (rS_order, .inl (kS_order, 72, .inl fS_order)), (oC, .inr (1, [.int iC_nodes, .int iC_words, .int iC_chances, .int iC_unsures, .int iC_slips, .int iC_throneNode, .int iC_saidWorth, .int iC_unit, .ref rC_kind, .ref rC_parts, .ref rC_partNodes, .ref rC_weights, .ref rC_weightSums, .ref rC_toldWorths, .ref rC_steps, .ref rC_below, .ref rC_above, .ref rC_unsureWords, .ref rC_unsureWorths])), (rC_weights, .inl (kC_weights, 72, .inl fC_weights))] [(kS_order, .int), (kC_weights, .int)] t) (va_A [(oS, .inr (5, [.ref rS_worths, .ref rS_order, .ref rS_left])), (rS_order, .inl (kS_order, 72, .inl fS_order)), (oC, .inr (1, [.int iC_nodes, .int iC_words, .int iC_chances, .int iC_unsures, .int iC_slips, .int iC_throneNode, .int iC_saidWorth, .int iC_unit, .ref rC_kind, .ref rC_parts, .ref rC_partNodes, .ref rC_weights, .ref rC_weightSums, .ref rC_toldWorths, .ref rC_steps, .ref rC_below, .ref rC_above, .ref rC_unsureWords, .ref rC_unsureWorths])), (rC_weights, .inl (kC_weights, 72, .inl fC_weights))] sz)) 0 0 (va_A [(oS, .inr (5, [.ref rS_worths, .ref rS_order, .ref rS_left])), (rS_order, .inl (kS_order, 72, .inl fS_order)), (oC, .inr (1, [.int iC_nodes, .int iC_words, .int iC_chances, .int iC_unsures, .int iC_slips, .int iC_throneNode, .int iC_saidWorth, .int iC_unit, .ref rC_kind, .ref rC_parts, .ref rC_partNodes, .ref rC_weights, .ref rC_weightSums, .ref rC_toldWorths, .ref rC_steps, .ref rC_below, .ref rC_above, .ref rC_unsureWords, .ref rC_unsureWorths])), (rC_weights, .inl (kC_weights, 72, .inl fC_weights))] sz) := by
  refine Met.ofW (cc := cX5_weightAt) (maxL := 4) (ret := (some .int)) (by decide) rfl ?_
  intro p e s m args below meth c s₁ B hml hv
  obtain ⟨rfl, hsz, hP, hK, hD0, hE⟩ := hv
  have hx := B.exec
  have hb := B.bytes
  have hr := B.returns
  have hts : ∀ w ∈ wG, w.before ([.ref oS, .ref oC, .int p0, .int p1] : List Value).toArray s = true := fun w h => atoms_spec (ws := Cond.code yX5_weightAt cX5_weightAt 4 (some .int) :: wG) B.pre w (List.mem_cons_of_mem _ h)
  have hown : s.vm.findClass RX5 = some m.cls := findClass_of_methodNamed B.named
  have hlocks := B.notSynchronized
  subst hsz
  have hD := hD0.self (sz := s.heap.size)
  generalize hAe : va_A [(oS, .inr (5, [.ref rS_worths, .ref rS_order, .ref rS_left])), (rS_order, .inl (kS_order, 72, .inl fS_order)), (oC, .inr (1, [.int iC_nodes, .int iC_words, .int iC_chances, .int iC_unsures, .int iC_slips, .int iC_throneNode, .int iC_saidWorth, .int iC_unit, .ref rC_kind, .ref rC_parts, .ref rC_partNodes, .ref rC_weights, .ref rC_weightSums, .ref rC_toldWorths, .ref rC_steps, .ref rC_below, .ref rC_above, .ref rC_unsureWords, .ref rC_unsureWorths])), (rC_weights, .inl (kC_weights, 72, .inl fC_weights))] s.heap.size = A at hD hE ⊢
  have hA : ∀ q : Nat, s.heap.size ≤ q → A q := fun q h => by rw [← hAe]; exact Or.inr h
  have hS : va_S A s.heap s.heap [] := va_S.rf
  have hl := lv_entry ([.ref oS, .ref oC, .int p0, .int p1]) (n := 4) (Nat.le_of_ble_eq_true rfl)
  rw [lg_entry_eq]
  generalize (lg_sl ([.ref oS, .ref oC, .int p0, .int p1]) ++ List.replicate (4 - (lg_sl ([.ref oS, .ref oC, .int p0, .int p1])).length) Slot.unset).toArray = ls at hl ⊢
  have hl : lv_has ls 4 [(0, .ref oS), (1, .ref oC), (2, .int p0), (3, .int p1)] := hl
  have rg_p0 := fb_rng p0
  have rg_p1 := fb_rng p1
  refine lv_aload_n hx hb dX5_weightAt_0 rfl (lv_at hl 1 rfl) ?_
  refine va_get (D := (dC, dI)) (ci := 1) (v := .ref rC_weights) (C := RX1) (T := TX1) (N := 19) hx hb hts inX1 hown hK hP 2 rfl rfl 11 (by decide) (hts _ wd_755) (fun _ h9 => h9) rfl dX5_weightAt_1 ?_
  refine lv_iload_n hx hb dX5_weightAt_4 rfl (lv_at hl 2 rfl) ?_
  refine lv_iconst (v := 4) hx hb dX5_weightAt_5 (by decide) ?_
  refine lv_imul hx hb dX5_weightAt_6 ?_
  refine lv_topi (fun x_336 ex_336 => ?_)
  have vx_336 : x_336.toInt = 4 * p0.toInt := by have q := ti_mul ex_336 rfl kc_4 (by omega) (by omega); omega
  refine lv_aload_n hx hb dX5_weightAt_7 rfl (lv_at hl 0 rfl) ?_
  refine va_get (D := (dC, dI)) (ci := 5) (v := .ref rS_order) (C := RX5) (T := TX5) (N := 3) hx hb hts inX5 hown hK hP 0 rfl rfl 1 (by decide) (hts _ wd_129) (fun _ h9 => h9) rfl dX5_weightAt_8 ?_
  refine lv_iload_n hx hb dX5_weightAt_11 rfl (lv_at hl 2 rfl) ?_
  refine lv_iconst (v := 4) hx hb dX5_weightAt_12 (by decide) ?_
  refine lv_imul hx hb dX5_weightAt_13 ?_
  refine lv_topi (fun x_337 ex_337 => ?_)
  have vx_337 : x_337.toInt = 4 * p0.toInt := by have q := ti_mul ex_337 rfl kc_4 (by omega) (by omega); omega
  refine lv_iload_n hx hb dX5_weightAt_14 rfl (lv_at hl 3 rfl) ?_
  refine lv_iadd hx hb dX5_weightAt_15 ?_
  refine lv_topi (fun x_338 ex_338 => ?_)
  have vx_338 : x_338.toInt = 4 * p0.toInt + p1.toInt := by have q := ti_add ex_338 vx_337 rfl (by omega) (by omega); omega
  refine va_iald hx hb hK hP 1 0 rfl rfl (ti_in vx_338 (by omega) (by omega)) dX5_weightAt_16 ?_
  refine lv_topi (fun x_339 ex_339 => ?_)
  have rg_x_339 := fb_rng x_339
  have kx_339 : (fS_order x_338.toNatClampNeg).toInt = x_339.toInt := by rw [ex_339]
  have ux_339 := a_fS_order _ (by have q := ti_cl (x := x_338) vx_338 (by omega); omega : x_338.toNatClampNeg < 72)
  rw [show fS_order x_338.toNatClampNeg = x_339 from ex_339.symm] at ux_339
  refine lv_iadd hx hb dX5_weightAt_17 ?_
  refine lv_topi (fun x_340 ex_340 => ?_)
  have vx_340 : x_340.toInt = 4 * p0.toInt + x_339.toInt := by have q := ti_add ex_340 vx_336 rfl (by omega) (by omega); omega
  refine va_iald hx hb hK hP 3 1 rfl rfl (ti_in vx_340 (by omega) (by omega)) dX5_weightAt_18 ?_
  refine lv_topi (fun x_341 ex_341 => ?_)
  have rg_x_341 := fb_rng x_341
  have kx_341 : (fC_weights x_340.toNatClampNeg).toInt = x_341.toInt := by rw [ex_341]
  have hP9 := hP.sub (ws' := [(oS, .inr (5, [.ref rS_worths, .ref rS_order, .ref rS_left])), (rS_order, .inl (kS_order, 72, .inl fS_order)), (oC, .inr (1, [.int iC_nodes, .int iC_words, .int iC_chances, .int iC_unsures, .int iC_slips, .int iC_throneNode, .int iC_saidWorth, .int iC_unit, .ref rC_kind, .ref rC_parts, .ref rC_partNodes, .ref rC_weights, .ref rC_weightSums, .ref rC_toldWorths, .ref rC_steps, .ref rC_below, .ref rC_above, .ref rC_unsureWords, .ref rC_unsureWorths])), (rC_weights, .inl (kC_weights, 72, .inl fC_weights))]) [0, 1, 2, 3] rfl
  have hD9 := hD.sub (ws' := [(oS, .inr (5, [.ref rS_worths, .ref rS_order, .ref rS_left])), (rS_order, .inl (kS_order, 72, .inl fS_order)), (oC, .inr (1, [.int iC_nodes, .int iC_words, .int iC_chances, .int iC_unsures, .int iC_slips, .int iC_throneNode, .int iC_saidWorth, .int iC_unit, .ref rC_kind, .ref rC_parts, .ref rC_partNodes, .ref rC_weights, .ref rC_weightSums, .ref rC_toldWorths, .ref rC_steps, .ref rC_below, .ref rC_above, .ref rC_unsureWords, .ref rC_unsureWorths])), (rC_weights, .inl (kC_weights, 72, .inl fC_weights))]) [0, 1, 2, 3] (by decide) rfl
  have hK9 := hK.sub (tys' := [(kS_order, .int), (kC_weights, .int)]) [0, 1] rfl
  exact W.iret hx hb hr (fun t ht hW => ⟨⟨_, 0, rfl, ⟨trivial, trivial⟩, Bw.to hP9 hD9 hK9 ht hW⟩, hS.F ht⟩) hS.2.2 dX5_weightAt_19
set_option maxHeartbeats 4000000 in
set_option maxRecDepth 100000 in
theorem tX5_bringFirst (l : Launch) (dC : Nat → ClassId) (dI : Nat → Nat → Nat) (sz : Nat) (oS : Nat) (rS_worths : Nat) (rS_order : Nat) (fS_order : Nat → Int32) (kS_order : ClassId) (rS_left : Nat) (p0 : Int32) (p1 : Int32) (a_fS_order : ∀ j : Nat, j < 72 → 0 ≤ (fS_order j).toInt ∧ (fS_order j).toInt ≤ 3) (hp0 : 0 ≤ p0.toInt ∧ p0.toInt ≤ 17) (hp1 : 0 ≤ p1.toInt ∧ p1.toInt ≤ 3) : Met l yX5_bringFirst (Cond.code yX5_bringFirst cX5_bringFirst 6 none :: wG) ({ frames := 0, cells := 0, slots := 0, locals := 0 }) (va_Pc [.ref oS, .int p0, .int p1] (Pw dC dI sz [(oS, .inr (5, [.ref rS_worths, .ref rS_order, .ref rS_left])), (rS_order, .inl (kS_order, 72, .inl fS_order))] [(kS_order, .int)])) (va_Qv (fun (_ : Nat) => True) (fun (_ : Nat) (t : State) => ∃ (nfS_order : Nat → Int32), (∀ j : Nat, j < 72 → 0 ≤ (nfS_order j).toInt ∧ (nfS_order j).toInt ≤ 3) ∧ Bw dC dI (va_A [(oS, .inr (5, [.ref rS_worths, .ref rS_order, .ref rS_left])), (rS_order, .inl (kS_order, 72, .inl fS_order))] sz) [(oS, .inr (5, [.ref rS_worths, .ref rS_order, .ref rS_left])), (rS_order, .inl (kS_order, 72, .inl nfS_order))] [(kS_order, .int)] t) (va_A [(oS, .inr (5, [.ref rS_worths, .ref rS_order, .ref rS_left])), (rS_order, .inl (kS_order, 72, .inl fS_order))] sz)) 0 0 (va_A [(oS, .inr (5, [.ref rS_worths, .ref rS_order, .ref rS_left])), (rS_order, .inl (kS_order, 72, .inl fS_order))] sz) := by
  refine Met.ofW (cc := cX5_bringFirst) (maxL := 6) (ret := none) (by decide) rfl ?_
  intro p e s m args below meth c s₁ B hml hv
  obtain ⟨rfl, hsz, hP, hK, hD0, hE⟩ := hv
  have hx := B.exec
  have hb := B.bytes
  have hr := B.returns
  have hts : ∀ w ∈ wG, w.before ([.ref oS, .int p0, .int p1] : List Value).toArray s = true := fun w h => atoms_spec (ws := Cond.code yX5_bringFirst cX5_bringFirst 6 none :: wG) B.pre w (List.mem_cons_of_mem _ h)
  have hown : s.vm.findClass RX5 = some m.cls := findClass_of_methodNamed B.named
  have hlocks := B.notSynchronized
  subst hsz
  have hD := hD0.self (sz := s.heap.size)
  generalize hAe : va_A [(oS, .inr (5, [.ref rS_worths, .ref rS_order, .ref rS_left])), (rS_order, .inl (kS_order, 72, .inl fS_order))] s.heap.size = A at hD hE ⊢
  have hA : ∀ q : Nat, s.heap.size ≤ q → A q := fun q h => by rw [← hAe]; exact Or.inr h
  have hS : va_S A s.heap s.heap [] := va_S.rf
  have hl := lv_entry ([.ref oS, .int p0, .int p1]) (n := 6) (Nat.le_of_ble_eq_true rfl)
  rw [lg_entry_eq]
  generalize (lg_sl ([.ref oS, .int p0, .int p1]) ++ List.replicate (6 - (lg_sl ([.ref oS, .int p0, .int p1])).length) Slot.unset).toArray = ls at hl ⊢
  have hl : lv_has ls 6 [(0, .ref oS), (1, .int p0), (2, .int p1)] := hl
  have rg_p0 := fb_rng p0
  have rg_p1 := fb_rng p1
  refine lv_iload_n hx hb dX5_bringFirst_0 rfl (lv_at hl 1 rfl) ?_
  refine lv_iconst (v := 4) hx hb dX5_bringFirst_1 (by decide) ?_
  refine lv_imul hx hb dX5_bringFirst_2 ?_
  refine lv_topi (fun x_369 ex_369 => ?_)
  have vx_369 : x_369.toInt = 4 * p0.toInt := by have q := ti_mul ex_369 rfl kc_4 (by omega) (by omega); omega
  refine lv_istore_n (lv' := [(3, .int x_369), (0, .ref oS), (1, .int p0), (2, .int p1)]) hx hb dX5_bringFirst_3 rfl hl (by decide) rfl (fun ls hl => ?_)
  refine lv_aload_n hx hb dX5_bringFirst_4 rfl (lv_at hl 1 rfl) ?_
  refine va_get (D := (dC, dI)) (ci := 5) (v := .ref rS_order) (C := RX5) (T := TX5) (N := 3) hx hb hts inX5 hown hK hP 0 rfl rfl 1 (by decide) (hts _ wd_129) (fun _ h9 => h9) rfl dX5_bringFirst_5 ?_
  refine lv_iload_n hx hb dX5_bringFirst_8 rfl (lv_at hl 0 rfl) ?_
  refine lv_iload_n hx hb dX5_bringFirst_9 rfl (lv_at hl 3 rfl) ?_
  refine lv_iadd hx hb dX5_bringFirst_10 ?_
  refine lv_topi (fun x_370 ex_370 => ?_)
  have vx_370 : x_370.toInt = 4 * p0.toInt + p1.toInt := by have q := ti_add ex_370 vx_369 rfl (by omega) (by omega); omega
  refine va_iald hx hb hK hP 1 0 rfl rfl (ti_in vx_370 (by omega) (by omega)) dX5_bringFirst_11 ?_
  refine lv_topi (fun x_371 ex_371 => ?_)
  have rg_x_371 := fb_rng x_371
  have kx_371 : (fS_order x_370.toNatClampNeg).toInt = x_371.toInt := by rw [ex_371]
  have ux_371 := a_fS_order _ (by have q := ti_cl (x := x_370) vx_370 (by omega); omega : x_370.toNatClampNeg < 72)
  rw [show fS_order x_370.toNatClampNeg = x_371 from ex_371.symm] at ux_371
  refine lv_istore (lv' := [(4, .int x_371), (3, .int x_369), (0, .ref oS), (1, .int p0), (2, .int p1)]) hx hb dX5_bringFirst_12 hl (by decide) rfl (fun ls hl => ?_)
  refine lv_iload_n hx hb dX5_bringFirst_14 rfl (lv_at hl 4 rfl) ?_
  refine lv_istore (lv' := [(5, .int p1), (4, .int x_371), (3, .int x_369), (0, .ref oS), (1, .int p0), (2, .int p1)]) hx hb dX5_bringFirst_15 hl (by decide) rfl (fun ls hl => ?_)
  have hl := lv_sub hl (l' := [(5, .int p1), (4, .int x_371), (3, .int x_369), (0, .ref oS), (1, .int p0), (2, .int p1)]) [0, 1, 2, 3, 4, 5] rfl
  have key_n_374 : ∀ (n_374 : Nat) (z_372 : Int32) (f_373 : Nat → Int32) (H : Heap) (locs : List Loc) (ls : Array Slot), (∀ j : Nat, j < 72 → 0 ≤ (f_373 j).toInt ∧ (f_373 j).toInt ≤ 3) → (0 ≤ z_372.toInt ∧ z_372.toInt ≤ 3) → (z_372.toInt - 0).toNat < n_374 → va_P (dC, dI) vwCl [(oS, .inr (5, [.ref rS_worths, .ref rS_order, .ref rS_left])), (rS_order, .inl (kS_order, 72, .inl f_373))] H → va_D A [(oS, .inr (5, [.ref rS_worths, .ref rS_order, .ref rS_left])), (rS_order, .inl (kS_order, 72, .inl f_373))] → va_S A s.heap H locs → lv_has ls 6 [(5, .int z_372), (4, .int x_371), (3, .int x_369), (0, .ref oS), (1, .int p0), (2, .int p1)] → W p l e (headSpec (Cond.code yX5_bringFirst cX5_bringFirst 6 none :: wG) ({ frames := 0, cells := 0, slots := 0, locals := 0 })).room s m ([.ref oS, .int p0, .int p1] : List Value).toArray below meth c H locs 0 0 (MQ below (va_Qv (fun (_ : Nat) => True) (fun (_ : Nat) (t : State) => ∃ (nfS_order : Nat → Int32), (∀ j : Nat, j < 72 → 0 ≤ (nfS_order j).toInt ∧ (nfS_order j).toInt ≤ 3) ∧ Bw dC dI A [(oS, .inr (5, [.ref rS_worths, .ref rS_order, .ref rS_left])), (rS_order, .inl (kS_order, 72, .inl nfS_order))] [(kS_order, .int)] t) A) ([.ref oS, .int p0, .int p1] : List Value).toArray s 0 0 A) (F0 m 17 ls []) := by
    intro n_374
    induction n_374 with
    | zero => intro z_372 f_373 H locs ls a_f_373 hi0_n_374 hm; exact absurd hm (by omega)
    | succ n_374 ih_n_374 =>
      intro z_372 f_373 H locs ls a_f_373 hi0_n_374 hm hP hD hS hl
      have rg_z_372 := fb_rng z_372
      refine lv_iload hx hb dX5_bringFirst_17 (lv_at hl 0 rfl) ?_
      refine lv_if_le (tgt := 48) hx hb dX5_bringFirst_19 (by decide) (fun c_375 => ?_) (fun c_375 => ?_)
      · skip
        have gc_375 := ti_le c_375 rfl kc_0
        refine lv_aload_n hx hb dX5_bringFirst_48 rfl (lv_at hl 3 rfl) ?_
        refine va_get (D := (dC, dI)) (ci := 5) (v := .ref rS_order) (C := RX5) (T := TX5) (N := 3) hx hb hts inX5 hown hK hP 0 rfl rfl 1 (by decide) (hts _ wd_129) (fun _ h9 => h9) rfl dX5_bringFirst_49 ?_
        refine lv_iload_n hx hb dX5_bringFirst_52 rfl (lv_at hl 2 rfl) ?_
        refine lv_iload hx hb dX5_bringFirst_53 (lv_at hl 1 rfl) ?_
        refine vi_iast (lo := 0) (hi := 3) hx hb hK hP hD hS 1 0 rfl rfl (ti_in vx_369 (by omega) (by omega)) a_f_373 (by omega) dX5_bringFirst_55 (fun H locs f_376 a_f_376 hP hD hS => ?_)
        have hP : va_P (dC, dI) vwCl [(oS, .inr (5, [.ref rS_worths, .ref rS_order, .ref rS_left])), (rS_order, .inl (kS_order, 72, .inl f_376))] H := hP
        have hD : va_D A [(oS, .inr (5, [.ref rS_worths, .ref rS_order, .ref rS_left])), (rS_order, .inl (kS_order, 72, .inl f_376))] := hD
        have hP9 := hP.sub (ws' := [(oS, .inr (5, [.ref rS_worths, .ref rS_order, .ref rS_left])), (rS_order, .inl (kS_order, 72, .inl f_376))]) [0, 1] rfl
        have hD9 := hD.sub (ws' := [(oS, .inr (5, [.ref rS_worths, .ref rS_order, .ref rS_left])), (rS_order, .inl (kS_order, 72, .inl f_376))]) [0, 1] (by decide) rfl
        have hK9 := hK.sub (tys' := [(kS_order, .int)]) [0] rfl
        exact W.vret hx hb hr (fun t ht hW => ⟨⟨0, rfl, trivial, ⟨f_376, a_f_376, Bw.to hP9 hD9 hK9 ht hW⟩⟩, hS.F ht⟩) hS.2.2 dX5_bringFirst_56
      · skip
        have gc_375 := ti_nle c_375 rfl kc_0
        refine lv_aload_n hx hb dX5_bringFirst_22 rfl (lv_at hl 3 rfl) ?_
        refine va_get (D := (dC, dI)) (ci := 5) (v := .ref rS_order) (C := RX5) (T := TX5) (N := 3) hx hb hts inX5 hown hK hP 0 rfl rfl 1 (by decide) (hts _ wd_129) (fun _ h9 => h9) rfl dX5_bringFirst_23 ?_
        refine lv_iload_n hx hb dX5_bringFirst_26 rfl (lv_at hl 2 rfl) ?_
        refine lv_iload hx hb dX5_bringFirst_27 (lv_at hl 0 rfl) ?_
        refine lv_iadd hx hb dX5_bringFirst_29 ?_
        refine lv_topi (fun x_377 ex_377 => ?_)
        have vx_377 : x_377.toInt = 4 * p0.toInt + z_372.toInt := by have q := ti_add ex_377 vx_369 rfl (by omega) (by omega); omega
        refine lv_aload_n hx hb dX5_bringFirst_30 rfl (lv_at hl 3 rfl) ?_
        refine va_get (D := (dC, dI)) (ci := 5) (v := .ref rS_order) (C := RX5) (T := TX5) (N := 3) hx hb hts inX5 hown hK hP 0 rfl rfl 1 (by decide) (hts _ wd_129) (fun _ h9 => h9) rfl dX5_bringFirst_31 ?_
        refine lv_iload_n hx hb dX5_bringFirst_34 rfl (lv_at hl 2 rfl) ?_
        refine lv_iload hx hb dX5_bringFirst_35 (lv_at hl 0 rfl) ?_
        refine lv_iadd hx hb dX5_bringFirst_37 ?_
        refine lv_topi (fun x_378 ex_378 => ?_)
        have vx_378 : x_378.toInt = 4 * p0.toInt + z_372.toInt := by have q := ti_add ex_378 vx_369 rfl (by omega) (by omega); omega
        refine lv_iconst (v := 1) hx hb dX5_bringFirst_38 (by decide) ?_
        refine lv_isub hx hb dX5_bringFirst_39 ?_
        refine lv_topi (fun x_379 ex_379 => ?_)
        have vx_379 : x_379.toInt = 4 * p0.toInt + z_372.toInt + (-1) := by have q := ti_sub ex_379 vx_378 kc_1 (by omega) (by omega); omega
        refine va_iald hx hb hK hP 1 0 rfl rfl (ti_in vx_379 (by omega) (by omega)) dX5_bringFirst_40 ?_
        refine lv_topi (fun x_380 ex_380 => ?_)
        have rg_x_380 := fb_rng x_380
        have kx_380 : (f_373 x_379.toNatClampNeg).toInt = x_380.toInt := by rw [ex_380]
        have ux_380 := a_f_373 _ (by have q := ti_cl (x := x_379) vx_379 (by omega); omega : x_379.toNatClampNeg < 72)
        rw [show f_373 x_379.toNatClampNeg = x_380 from ex_380.symm] at ux_380
        refine vi_iast (lo := 0) (hi := 3) hx hb hK hP hD hS 1 0 rfl rfl (ti_in vx_377 (by omega) (by omega)) a_f_373 (by omega) dX5_bringFirst_41 (fun H locs f_381 a_f_381 hP hD hS => ?_)
        have hP : va_P (dC, dI) vwCl [(oS, .inr (5, [.ref rS_worths, .ref rS_order, .ref rS_left])), (rS_order, .inl (kS_order, 72, .inl f_381))] H := hP
        have hD : va_D A [(oS, .inr (5, [.ref rS_worths, .ref rS_order, .ref rS_left])), (rS_order, .inl (kS_order, 72, .inl f_381))] := hD
        obtain ⟨x_382, ex_382⟩ : ∃ z : Int32, z = z_372 + Int32.ofInt (-1) := ⟨_, rfl⟩
        have vx_382 : x_382.toInt = z_372.toInt + (-1) := by have q := ti_add (y := (-1)) ex_382 rfl kc_m1 (by omega) (by omega); omega
        refine lv_iinc (v := x_382) (lv' := [(5, .int x_382), (4, .int x_371), (3, .int x_369), (0, .ref oS), (1, .int p0), (2, .int p1)]) hx hb dX5_bringFirst_42 hl (k := 0) rfl ex_382.symm (by decide) rfl (fun ls hl => ?_)
        refine lv_goto (tgt := 17) hx hb dX5_bringFirst_45 (by decide) ?_
        exact ih_n_374 x_382 f_381 _ _ _ a_f_381 (by first | omega | decide) (by omega) (hP.sub [0, 1] rfl) (hD.sub [0, 1] (by decide) rfl) hS (lv_sub hl [0, 1, 2, 3, 4, 5] rfl)
  exact key_n_374 ((p1.toInt - 0).toNat + 1) p1 fS_order _ _ _ a_fS_order (by first | omega | decide) (by omega) hP hD hS hl
set_option maxHeartbeats 4000000 in
set_option maxRecDepth 100000 in
theorem tX5_sendBack (l : Launch) (dC : Nat → ClassId) (dI : Nat → Nat → Nat) (sz : Nat) (oS : Nat) (rS_worths : Nat) (rS_order : Nat) (fS_order : Nat → Int32) (kS_order : ClassId) (rS_left : Nat) (p0 : Int32) (p1 : Int32) (a_fS_order : ∀ j : Nat, j < 72 → 0 ≤ (fS_order j).toInt ∧ (fS_order j).toInt ≤ 3) (hp0 : 0 ≤ p0.toInt ∧ p0.toInt ≤ 17) (hp1 : 0 ≤ p1.toInt ∧ p1.toInt ≤ 3) : Met l yX5_sendBack (Cond.code yX5_sendBack cX5_sendBack 6 none :: wG) ({ frames := 0, cells := 0, slots := 0, locals := 0 }) (va_Pc [.ref oS, .int p0, .int p1] (Pw dC dI sz [(oS, .inr (5, [.ref rS_worths, .ref rS_order, .ref rS_left])), (rS_order, .inl (kS_order, 72, .inl fS_order))] [(kS_order, .int)])) (va_Qv (fun (_ : Nat) => True) (fun (_ : Nat) (t : State) => ∃ (nfS_order : Nat → Int32), (∀ j : Nat, j < 72 → 0 ≤ (nfS_order j).toInt ∧ (nfS_order j).toInt ≤ 3) ∧ Bw dC dI (va_A [(oS, .inr (5, [.ref rS_worths, .ref rS_order, .ref rS_left])), (rS_order, .inl (kS_order, 72, .inl fS_order))] sz) [(oS, .inr (5, [.ref rS_worths, .ref rS_order, .ref rS_left])), (rS_order, .inl (kS_order, 72, .inl nfS_order))] [(kS_order, .int)] t) (va_A [(oS, .inr (5, [.ref rS_worths, .ref rS_order, .ref rS_left])), (rS_order, .inl (kS_order, 72, .inl fS_order))] sz)) 0 0 (va_A [(oS, .inr (5, [.ref rS_worths, .ref rS_order, .ref rS_left])), (rS_order, .inl (kS_order, 72, .inl fS_order))] sz) := by
  refine Met.ofW (cc := cX5_sendBack) (maxL := 6) (ret := none) (by decide) rfl ?_
  intro p e s m args below meth c s₁ B hml hv
  obtain ⟨rfl, hsz, hP, hK, hD0, hE⟩ := hv
  have hx := B.exec
  have hb := B.bytes
  have hr := B.returns
  have hts : ∀ w ∈ wG, w.before ([.ref oS, .int p0, .int p1] : List Value).toArray s = true := fun w h => atoms_spec (ws := Cond.code yX5_sendBack cX5_sendBack 6 none :: wG) B.pre w (List.mem_cons_of_mem _ h)
  have hown : s.vm.findClass RX5 = some m.cls := findClass_of_methodNamed B.named
  have hlocks := B.notSynchronized
  subst hsz
  have hD := hD0.self (sz := s.heap.size)
  generalize hAe : va_A [(oS, .inr (5, [.ref rS_worths, .ref rS_order, .ref rS_left])), (rS_order, .inl (kS_order, 72, .inl fS_order))] s.heap.size = A at hD hE ⊢
  have hA : ∀ q : Nat, s.heap.size ≤ q → A q := fun q h => by rw [← hAe]; exact Or.inr h
  have hS : va_S A s.heap s.heap [] := va_S.rf
  have hl := lv_entry ([.ref oS, .int p0, .int p1]) (n := 6) (Nat.le_of_ble_eq_true rfl)
  rw [lg_entry_eq]
  generalize (lg_sl ([.ref oS, .int p0, .int p1]) ++ List.replicate (6 - (lg_sl ([.ref oS, .int p0, .int p1])).length) Slot.unset).toArray = ls at hl ⊢
  have hl : lv_has ls 6 [(0, .ref oS), (1, .int p0), (2, .int p1)] := hl
  have rg_p0 := fb_rng p0
  have rg_p1 := fb_rng p1
  refine lv_iload_n hx hb dX5_sendBack_0 rfl (lv_at hl 1 rfl) ?_
  refine lv_iconst (v := 4) hx hb dX5_sendBack_1 (by decide) ?_
  refine lv_imul hx hb dX5_sendBack_2 ?_
  refine lv_topi (fun x_410 ex_410 => ?_)
  have vx_410 : x_410.toInt = 4 * p0.toInt := by have q := ti_mul ex_410 rfl kc_4 (by omega) (by omega); omega
  refine lv_istore_n (lv' := [(3, .int x_410), (0, .ref oS), (1, .int p0), (2, .int p1)]) hx hb dX5_sendBack_3 rfl hl (by decide) rfl (fun ls hl => ?_)
  refine lv_aload_n hx hb dX5_sendBack_4 rfl (lv_at hl 1 rfl) ?_
  refine va_get (D := (dC, dI)) (ci := 5) (v := .ref rS_order) (C := RX5) (T := TX5) (N := 3) hx hb hts inX5 hown hK hP 0 rfl rfl 1 (by decide) (hts _ wd_129) (fun _ h9 => h9) rfl dX5_sendBack_5 ?_
  refine lv_iload_n hx hb dX5_sendBack_8 rfl (lv_at hl 0 rfl) ?_
  refine va_iald hx hb hK hP 1 0 rfl rfl (ti_in vx_410 (by omega) (by omega)) dX5_sendBack_9 ?_
  refine lv_topi (fun x_411 ex_411 => ?_)
  have rg_x_411 := fb_rng x_411
  have kx_411 : (fS_order x_410.toNatClampNeg).toInt = x_411.toInt := by rw [ex_411]
  have ux_411 := a_fS_order _ (by have q := ti_cl (x := x_410) vx_410 (by omega); omega : x_410.toNatClampNeg < 72)
  rw [show fS_order x_410.toNatClampNeg = x_411 from ex_411.symm] at ux_411
  refine lv_istore (lv' := [(4, .int x_411), (3, .int x_410), (0, .ref oS), (1, .int p0), (2, .int p1)]) hx hb dX5_sendBack_10 hl (by decide) rfl (fun ls hl => ?_)
  refine lv_iconst (v := 0) hx hb dX5_sendBack_12 (by decide) ?_
  refine lv_istore (lv' := [(5, .int 0), (4, .int x_411), (3, .int x_410), (0, .ref oS), (1, .int p0), (2, .int p1)]) hx hb dX5_sendBack_13 hl (by decide) rfl (fun ls hl => ?_)
  have hl := lv_sub hl (l' := [(5, .int 0), (4, .int x_411), (3, .int x_410), (0, .ref oS), (1, .int p0), (2, .int p1)]) [0, 1, 2, 3, 4, 5] rfl
  have key_n_414 : ∀ (n_414 : Nat) (z_412 : Int32) (f_413 : Nat → Int32) (H : Heap) (locs : List Loc) (ls : Array Slot), (∀ j : Nat, j < 72 → 0 ≤ (f_413 j).toInt ∧ (f_413 j).toInt ≤ 3) → (0 ≤ z_412.toInt ∧ z_412.toInt ≤ 2147483647) → (2147483647 - z_412.toInt).toNat < n_414 → va_P (dC, dI) vwCl [(oS, .inr (5, [.ref rS_worths, .ref rS_order, .ref rS_left])), (rS_order, .inl (kS_order, 72, .inl f_413))] H → va_D A [(oS, .inr (5, [.ref rS_worths, .ref rS_order, .ref rS_left])), (rS_order, .inl (kS_order, 72, .inl f_413))] → va_S A s.heap H locs → lv_has ls 6 [(5, .int z_412), (4, .int x_411), (3, .int x_410), (0, .ref oS), (1, .int p0), (2, .int p1)] → W p l e (headSpec (Cond.code yX5_sendBack cX5_sendBack 6 none :: wG) ({ frames := 0, cells := 0, slots := 0, locals := 0 })).room s m ([.ref oS, .int p0, .int p1] : List Value).toArray below meth c H locs 0 0 (MQ below (va_Qv (fun (_ : Nat) => True) (fun (_ : Nat) (t : State) => ∃ (nfS_order : Nat → Int32), (∀ j : Nat, j < 72 → 0 ≤ (nfS_order j).toInt ∧ (nfS_order j).toInt ≤ 3) ∧ Bw dC dI A [(oS, .inr (5, [.ref rS_worths, .ref rS_order, .ref rS_left])), (rS_order, .inl (kS_order, 72, .inl nfS_order))] [(kS_order, .int)] t) A) ([.ref oS, .int p0, .int p1] : List Value).toArray s 0 0 A) (F0 m 15 ls []) := by
    intro n_414
    induction n_414 with
    | zero => intro z_412 f_413 H locs ls a_f_413 hi0_n_414 hm; exact absurd hm (by omega)
    | succ n_414 ih_n_414 =>
      intro z_412 f_413 H locs ls a_f_413 hi0_n_414 hm hP hD hS hl
      have rg_z_412 := fb_rng z_412
      refine lv_iload hx hb dX5_sendBack_15 (lv_at hl 0 rfl) ?_
      refine lv_iload_n hx hb dX5_sendBack_17 rfl (lv_at hl 5 rfl) ?_
      refine lv_icmp_ge (tgt := 47) hx hb dX5_sendBack_18 (by decide) (fun c_415 => ?_) (fun c_415 => ?_)
      · skip
        have gc_415 := ti_le c_415 rfl rfl
        refine lv_aload_n hx hb dX5_sendBack_47 rfl (lv_at hl 3 rfl) ?_
        refine va_get (D := (dC, dI)) (ci := 5) (v := .ref rS_order) (C := RX5) (T := TX5) (N := 3) hx hb hts inX5 hown hK hP 0 rfl rfl 1 (by decide) (hts _ wd_129) (fun _ h9 => h9) rfl dX5_sendBack_48 ?_
        refine lv_iload_n hx hb dX5_sendBack_51 rfl (lv_at hl 2 rfl) ?_
        refine lv_iload_n hx hb dX5_sendBack_52 rfl (lv_at hl 5 rfl) ?_
        refine lv_iadd hx hb dX5_sendBack_53 ?_
        refine lv_topi (fun x_416 ex_416 => ?_)
        have vx_416 : x_416.toInt = 4 * p0.toInt + p1.toInt := by have q := ti_add ex_416 vx_410 rfl (by omega) (by omega); omega
        refine lv_iload hx hb dX5_sendBack_54 (lv_at hl 1 rfl) ?_
        refine vi_iast (lo := 0) (hi := 3) hx hb hK hP hD hS 1 0 rfl rfl (ti_in vx_416 (by omega) (by omega)) a_f_413 (by omega) dX5_sendBack_56 (fun H locs f_417 a_f_417 hP hD hS => ?_)
        have hP : va_P (dC, dI) vwCl [(oS, .inr (5, [.ref rS_worths, .ref rS_order, .ref rS_left])), (rS_order, .inl (kS_order, 72, .inl f_417))] H := hP
        have hD : va_D A [(oS, .inr (5, [.ref rS_worths, .ref rS_order, .ref rS_left])), (rS_order, .inl (kS_order, 72, .inl f_417))] := hD
        have hP9 := hP.sub (ws' := [(oS, .inr (5, [.ref rS_worths, .ref rS_order, .ref rS_left])), (rS_order, .inl (kS_order, 72, .inl f_417))]) [0, 1] rfl
        have hD9 := hD.sub (ws' := [(oS, .inr (5, [.ref rS_worths, .ref rS_order, .ref rS_left])), (rS_order, .inl (kS_order, 72, .inl f_417))]) [0, 1] (by decide) rfl
        have hK9 := hK.sub (tys' := [(kS_order, .int)]) [0] rfl
        exact W.vret hx hb hr (fun t ht hW => ⟨⟨0, rfl, trivial, ⟨f_417, a_f_417, Bw.to hP9 hD9 hK9 ht hW⟩⟩, hS.F ht⟩) hS.2.2 dX5_sendBack_57
      · skip
        have gc_415 := ti_nle c_415 rfl rfl
        refine lv_aload_n hx hb dX5_sendBack_21 rfl (lv_at hl 3 rfl) ?_
        refine va_get (D := (dC, dI)) (ci := 5) (v := .ref rS_order) (C := RX5) (T := TX5) (N := 3) hx hb hts inX5 hown hK hP 0 rfl rfl 1 (by decide) (hts _ wd_129) (fun _ h9 => h9) rfl dX5_sendBack_22 ?_
        refine lv_iload_n hx hb dX5_sendBack_25 rfl (lv_at hl 2 rfl) ?_
        refine lv_iload hx hb dX5_sendBack_26 (lv_at hl 0 rfl) ?_
        refine lv_iadd hx hb dX5_sendBack_28 ?_
        refine lv_topi (fun x_418 ex_418 => ?_)
        have vx_418 : x_418.toInt = 4 * p0.toInt + z_412.toInt := by have q := ti_add ex_418 vx_410 rfl (by omega) (by omega); omega
        refine lv_aload_n hx hb dX5_sendBack_29 rfl (lv_at hl 3 rfl) ?_
        refine va_get (D := (dC, dI)) (ci := 5) (v := .ref rS_order) (C := RX5) (T := TX5) (N := 3) hx hb hts inX5 hown hK hP 0 rfl rfl 1 (by decide) (hts _ wd_129) (fun _ h9 => h9) rfl dX5_sendBack_30 ?_
        refine lv_iload_n hx hb dX5_sendBack_33 rfl (lv_at hl 2 rfl) ?_
        refine lv_iload hx hb dX5_sendBack_34 (lv_at hl 0 rfl) ?_
        refine lv_iadd hx hb dX5_sendBack_36 ?_
        refine lv_topi (fun x_419 ex_419 => ?_)
        have vx_419 : x_419.toInt = 4 * p0.toInt + z_412.toInt := by have q := ti_add ex_419 vx_410 rfl (by omega) (by omega); omega
        refine lv_iconst (v := 1) hx hb dX5_sendBack_37 (by decide) ?_
        refine lv_iadd hx hb dX5_sendBack_38 ?_
        refine lv_topi (fun x_420 ex_420 => ?_)
        have vx_420 : x_420.toInt = 4 * p0.toInt + z_412.toInt + 1 := by have q := ti_add ex_420 vx_419 kc_1 (by omega) (by omega); omega
        refine va_iald hx hb hK hP 1 0 rfl rfl (ti_in vx_420 (by omega) (by omega)) dX5_sendBack_39 ?_
        refine lv_topi (fun x_421 ex_421 => ?_)
        have rg_x_421 := fb_rng x_421
        have kx_421 : (f_413 x_420.toNatClampNeg).toInt = x_421.toInt := by rw [ex_421]
        have ux_421 := a_f_413 _ (by have q := ti_cl (x := x_420) vx_420 (by omega); omega : x_420.toNatClampNeg < 72)
        rw [show f_413 x_420.toNatClampNeg = x_421 from ex_421.symm] at ux_421
        refine vi_iast (lo := 0) (hi := 3) hx hb hK hP hD hS 1 0 rfl rfl (ti_in vx_418 (by omega) (by omega)) a_f_413 (by omega) dX5_sendBack_40 (fun H locs f_422 a_f_422 hP hD hS => ?_)
        have hP : va_P (dC, dI) vwCl [(oS, .inr (5, [.ref rS_worths, .ref rS_order, .ref rS_left])), (rS_order, .inl (kS_order, 72, .inl f_422))] H := hP
        have hD : va_D A [(oS, .inr (5, [.ref rS_worths, .ref rS_order, .ref rS_left])), (rS_order, .inl (kS_order, 72, .inl f_422))] := hD
        obtain ⟨x_423, ex_423⟩ : ∃ z : Int32, z = z_412 + Int32.ofInt 1 := ⟨_, rfl⟩
        have vx_423 : x_423.toInt = z_412.toInt + 1 := by have q := ti_add (y := 1) ex_423 rfl kc_1 (by omega) (by omega); omega
        refine lv_iinc (v := x_423) (lv' := [(5, .int x_423), (4, .int x_411), (3, .int x_410), (0, .ref oS), (1, .int p0), (2, .int p1)]) hx hb dX5_sendBack_41 hl (k := 0) rfl ex_423.symm (by decide) rfl (fun ls hl => ?_)
        refine lv_goto (tgt := 15) hx hb dX5_sendBack_44 (by decide) ?_
        exact ih_n_414 x_423 f_422 _ _ _ a_f_422 (by first | omega | decide) (by omega) (hP.sub [0, 1] rfl) (hD.sub [0, 1] (by decide) rfl) hS (lv_sub hl [0, 1, 2, 3, 4, 5] rfl)
  exact key_n_414 ((2147483647 - (0 : Int32).toInt).toNat + 1) 0 fS_order _ _ _ a_fS_order (by first | omega | decide) (by omega) hP hD hS hl
set_option maxHeartbeats 4000000 in
set_option maxRecDepth 100000 in
theorem tX5_putInOrder (l : Launch) (dC : Nat → ClassId) (dI : Nat → Nat → Nat) (sz : Nat) (oS : Nat) (rS_worths : Nat) (rS_order : Nat) (fS_order : Nat → Int32) (kS_order : ClassId) (rS_left : Nat) (fS_left : Nat → Int32) (kS_left : ClassId) (p0 : Int32) (p1 : Int32) (p2 : Int32) (a_fS_order : ∀ j : Nat, j < 72 → 0 ≤ (fS_order j).toInt ∧ (fS_order j).toInt ≤ 3) (a_fS_left : ∀ j : Nat, j < 4 → 0 ≤ (fS_left j).toInt ∧ (fS_left j).toInt ≤ 3) (hp0 : 0 ≤ p0.toInt ∧ p0.toInt ≤ 17) (hp1 : 0 ≤ p1.toInt ∧ p1.toInt ≤ 4) (hp2 : 0 ≤ p2.toInt ∧ p2.toInt ≤ 2147483647) : Met l yX5_putInOrder (Cond.code yX5_putInOrder cX5_putInOrder 9 none :: wG) ({ frames := 0, cells := 0, slots := 0, locals := 0 }) (va_Pc [.ref oS, .int p0, .int p1, .int p2] (Pw dC dI sz [(oS, .inr (5, [.ref rS_worths, .ref rS_order, .ref rS_left])), (rS_order, .inl (kS_order, 72, .inl fS_order)), (rS_left, .inl (kS_left, 4, .inl fS_left))] [(kS_order, .int), (kS_left, .int)])) (va_Qv (fun (_ : Nat) => True) (fun (_ : Nat) (t : State) => ∃ (nfS_order : Nat → Int32) (nfS_left : Nat → Int32), (∀ j : Nat, j < 72 → 0 ≤ (nfS_order j).toInt ∧ (nfS_order j).toInt ≤ 3) ∧ (∀ j : Nat, j < 4 → 0 ≤ (nfS_left j).toInt ∧ (nfS_left j).toInt ≤ 3) ∧ Bw dC dI (va_A [(oS, .inr (5, [.ref rS_worths, .ref rS_order, .ref rS_left])), (rS_order, .inl (kS_order, 72, .inl fS_order)), (rS_left, .inl (kS_left, 4, .inl fS_left))] sz) [(oS, .inr (5, [.ref rS_worths, .ref rS_order, .ref rS_left])), (rS_order, .inl (kS_order, 72, .inl nfS_order)), (rS_left, .inl (kS_left, 4, .inl nfS_left))] [(kS_order, .int), (kS_left, .int)] t) (va_A [(oS, .inr (5, [.ref rS_worths, .ref rS_order, .ref rS_left])), (rS_order, .inl (kS_order, 72, .inl fS_order)), (rS_left, .inl (kS_left, 4, .inl fS_left))] sz)) 0 0 (va_A [(oS, .inr (5, [.ref rS_worths, .ref rS_order, .ref rS_left])), (rS_order, .inl (kS_order, 72, .inl fS_order)), (rS_left, .inl (kS_left, 4, .inl fS_left))] sz) := by
  refine Met.ofW (cc := cX5_putInOrder) (maxL := 9) (ret := none) (by decide) rfl ?_
  intro p e s m args below meth c s₁ B hml hv
  obtain ⟨rfl, hsz, hP, hK, hD0, hE⟩ := hv
  have hx := B.exec
  have hb := B.bytes
  have hr := B.returns
  have hts : ∀ w ∈ wG, w.before ([.ref oS, .int p0, .int p1, .int p2] : List Value).toArray s = true := fun w h => atoms_spec (ws := Cond.code yX5_putInOrder cX5_putInOrder 9 none :: wG) B.pre w (List.mem_cons_of_mem _ h)
  have hown : s.vm.findClass RX5 = some m.cls := findClass_of_methodNamed B.named
  have hlocks := B.notSynchronized
  subst hsz
  have hD := hD0.self (sz := s.heap.size)
  generalize hAe : va_A [(oS, .inr (5, [.ref rS_worths, .ref rS_order, .ref rS_left])), (rS_order, .inl (kS_order, 72, .inl fS_order)), (rS_left, .inl (kS_left, 4, .inl fS_left))] s.heap.size = A at hD hE ⊢
  have hA : ∀ q : Nat, s.heap.size ≤ q → A q := fun q h => by rw [← hAe]; exact Or.inr h
  have hS : va_S A s.heap s.heap [] := va_S.rf
  have hl := lv_entry ([.ref oS, .int p0, .int p1, .int p2]) (n := 9) (Nat.le_of_ble_eq_true rfl)
  rw [lg_entry_eq]
  generalize (lg_sl ([.ref oS, .int p0, .int p1, .int p2]) ++ List.replicate (9 - (lg_sl ([.ref oS, .int p0, .int p1, .int p2])).length) Slot.unset).toArray = ls at hl ⊢
  have hl : lv_has ls 9 [(0, .ref oS), (1, .int p0), (2, .int p1), (3, .int p2)] := hl
  have rg_p0 := fb_rng p0
  have rg_p1 := fb_rng p1
  have rg_p2 := fb_rng p2
  refine lv_iload_n hx hb dX5_putInOrder_0 rfl (lv_at hl 1 rfl) ?_
  refine lv_iconst (v := 4) hx hb dX5_putInOrder_1 (by decide) ?_
  refine lv_imul hx hb dX5_putInOrder_2 ?_
  refine lv_topi (fun x_549 ex_549 => ?_)
  have vx_549 : x_549.toInt = 4 * p0.toInt := by have q := ti_mul ex_549 rfl kc_4 (by omega) (by omega); omega
  refine lv_istore (lv' := [(4, .int x_549), (0, .ref oS), (1, .int p0), (2, .int p1), (3, .int p2)]) hx hb dX5_putInOrder_3 hl (by decide) rfl (fun ls hl => ?_)
  refine lv_iconst (v := 0) hx hb dX5_putInOrder_5 (by decide) ?_
  refine lv_istore (lv' := [(5, .int 0), (4, .int x_549), (0, .ref oS), (1, .int p0), (2, .int p1), (3, .int p2)]) hx hb dX5_putInOrder_6 hl (by decide) rfl (fun ls hl => ?_)
  have hl := lv_sub hl (l' := [(5, .int 0), (4, .int x_549), (0, .ref oS), (1, .int p0), (2, .int p1), (3, .int p2)]) [0, 1, 2, 3, 4, 5] rfl
  have key_n_552 : ∀ (n_552 : Nat) (z_550 : Int32) (f_551 : Nat → Int32) (H : Heap) (locs : List Loc) (ls : Array Slot), (∀ j : Nat, j < 4 → 0 ≤ (f_551 j).toInt ∧ (f_551 j).toInt ≤ 3) → (0 ≤ z_550.toInt ∧ z_550.toInt ≤ 2147483647) → (2147483647 - z_550.toInt).toNat < n_552 → va_P (dC, dI) vwCl [(oS, .inr (5, [.ref rS_worths, .ref rS_order, .ref rS_left])), (rS_order, .inl (kS_order, 72, .inl fS_order)), (rS_left, .inl (kS_left, 4, .inl f_551))] H → va_D A [(oS, .inr (5, [.ref rS_worths, .ref rS_order, .ref rS_left])), (rS_order, .inl (kS_order, 72, .inl fS_order)), (rS_left, .inl (kS_left, 4, .inl f_551))] → va_S A s.heap H locs → lv_has ls 9 [(5, .int z_550), (4, .int x_549), (0, .ref oS), (1, .int p0), (2, .int p1), (3, .int p2)] → W p l e (headSpec (Cond.code yX5_putInOrder cX5_putInOrder 9 none :: wG) ({ frames := 0, cells := 0, slots := 0, locals := 0 })).room s m ([.ref oS, .int p0, .int p1, .int p2] : List Value).toArray below meth c H locs 0 0 (MQ below (va_Qv (fun (_ : Nat) => True) (fun (_ : Nat) (t : State) => ∃ (nfS_order : Nat → Int32) (nfS_left : Nat → Int32), (∀ j : Nat, j < 72 → 0 ≤ (nfS_order j).toInt ∧ (nfS_order j).toInt ≤ 3) ∧ (∀ j : Nat, j < 4 → 0 ≤ (nfS_left j).toInt ∧ (nfS_left j).toInt ≤ 3) ∧ Bw dC dI A [(oS, .inr (5, [.ref rS_worths, .ref rS_order, .ref rS_left])), (rS_order, .inl (kS_order, 72, .inl nfS_order)), (rS_left, .inl (kS_left, 4, .inl nfS_left))] [(kS_order, .int), (kS_left, .int)] t) A) ([.ref oS, .int p0, .int p1, .int p2] : List Value).toArray s 0 0 A) (F0 m 8 ls []) := by
    intro n_552
    induction n_552 with
    | zero => intro z_550 f_551 H locs ls a_f_551 hi0_n_552 hm; exact absurd hm (by omega)
    | succ n_552 ih_n_552 =>
      intro z_550 f_551 H locs ls a_f_551 hi0_n_552 hm hP hD hS hl
      have rg_z_550 := fb_rng z_550
      refine lv_iload hx hb dX5_putInOrder_8 (lv_at hl 0 rfl) ?_
      refine lv_iload_n hx hb dX5_putInOrder_10 rfl (lv_at hl 4 rfl) ?_
      refine lv_icmp_ge (tgt := 37) hx hb dX5_putInOrder_11 (by decide) (fun c_553 => ?_) (fun c_553 => ?_)
      · skip
        have gc_553 := ti_le c_553 rfl rfl
        refine lv_iload_n hx hb dX5_putInOrder_37 rfl (lv_at hl 5 rfl) ?_
        refine lv_istore (lv' := [(5, .int p2), (4, .int x_549), (0, .ref oS), (1, .int p0), (2, .int p1), (3, .int p2)]) hx hb dX5_putInOrder_38 hl (by decide) rfl (fun ls hl => ?_)
        refine lv_iload_n hx hb dX5_putInOrder_40 rfl (lv_at hl 4 rfl) ?_
        refine lv_istore (lv' := [(6, .int p1), (5, .int p2), (4, .int x_549), (0, .ref oS), (1, .int p0), (2, .int p1), (3, .int p2)]) hx hb dX5_putInOrder_41 hl (by decide) rfl (fun ls hl => ?_)
        have hl := lv_sub hl (l' := [(6, .int p1), (5, .int p2), (4, .int x_549), (0, .ref oS), (1, .int p0), (2, .int p1), (3, .int p2)]) [0, 1, 2, 3, 4, 5, 6] rfl
        have key_n_558 : ∀ (n_558 : Nat) (z_554 : Int32) (z_555 : Int32) (f_556 : Nat → Int32) (f_557 : Nat → Int32) (H : Heap) (locs : List Loc) (ls : Array Slot), (∀ j : Nat, j < 72 → 0 ≤ (f_556 j).toInt ∧ (f_556 j).toInt ≤ 3) → (∀ j : Nat, j < 4 → 0 ≤ (f_557 j).toInt ∧ (f_557 j).toInt ≤ 3) → (0 ≤ z_554.toInt ∧ z_554.toInt ≤ p1.toInt) → (0 ≤ z_555.toInt) → z_554.toInt.toNat < n_558 → va_P (dC, dI) vwCl [(oS, .inr (5, [.ref rS_worths, .ref rS_order, .ref rS_left])), (rS_order, .inl (kS_order, 72, .inl f_556)), (rS_left, .inl (kS_left, 4, .inl f_557))] H → va_D A [(oS, .inr (5, [.ref rS_worths, .ref rS_order, .ref rS_left])), (rS_order, .inl (kS_order, 72, .inl f_556)), (rS_left, .inl (kS_left, 4, .inl f_557))] → va_S A s.heap H locs → lv_has ls 9 [(6, .int z_554), (5, .int z_555), (4, .int x_549), (0, .ref oS), (1, .int p0), (2, .int p1), (3, .int p2)] → W p l e (headSpec (Cond.code yX5_putInOrder cX5_putInOrder 9 none :: wG) ({ frames := 0, cells := 0, slots := 0, locals := 0 })).room s m ([.ref oS, .int p0, .int p1, .int p2] : List Value).toArray below meth c H locs 0 0 (MQ below (va_Qv (fun (_ : Nat) => True) (fun (_ : Nat) (t : State) => ∃ (nfS_order : Nat → Int32) (nfS_left : Nat → Int32), (∀ j : Nat, j < 72 → 0 ≤ (nfS_order j).toInt ∧ (nfS_order j).toInt ≤ 3) ∧ (∀ j : Nat, j < 4 → 0 ≤ (nfS_left j).toInt ∧ (nfS_left j).toInt ≤ 3) ∧ Bw dC dI A [(oS, .inr (5, [.ref rS_worths, .ref rS_order, .ref rS_left])), (rS_order, .inl (kS_order, 72, .inl nfS_order)), (rS_left, .inl (kS_left, 4, .inl nfS_left))] [(kS_order, .int), (kS_left, .int)] t) A) ([.ref oS, .int p0, .int p1, .int p2] : List Value).toArray s 0 0 A) (F0 m 43 ls []) := by
          intro n_558
          induction n_558 with
          | zero => intro z_554 z_555 f_556 f_557 H locs ls a_f_556 a_f_557 hi0_n_558 hi1_n_558 hm; exact absurd hm (by omega)
          | succ n_558 ih_n_558 =>
            intro z_554 z_555 f_556 f_557 H locs ls a_f_556 a_f_557 hi0_n_558 hi1_n_558 hm hP hD hS hl
            have rg_z_554 := fb_rng z_554
            have rg_z_555 := fb_rng z_555
            refine lv_iload hx hb dX5_putInOrder_43 (lv_at hl 0 rfl) ?_
            refine lv_if_le (tgt := 122) hx hb dX5_putInOrder_45 (by decide) (fun c_559 => ?_) (fun c_559 => ?_)
            · skip
              have gc_559 := ti_le c_559 rfl kc_0
              have hP9 := hP.sub (ws' := [(oS, .inr (5, [.ref rS_worths, .ref rS_order, .ref rS_left])), (rS_order, .inl (kS_order, 72, .inl f_556)), (rS_left, .inl (kS_left, 4, .inl f_557))]) [0, 1, 2] rfl
              have hD9 := hD.sub (ws' := [(oS, .inr (5, [.ref rS_worths, .ref rS_order, .ref rS_left])), (rS_order, .inl (kS_order, 72, .inl f_556)), (rS_left, .inl (kS_left, 4, .inl f_557))]) [0, 1, 2] (by decide) rfl
              have hK9 := hK.sub (tys' := [(kS_order, .int), (kS_left, .int)]) [0, 1] rfl
              exact W.vret hx hb hr (fun t ht hW => ⟨⟨0, rfl, trivial, ⟨f_556, f_557, a_f_556, a_f_557, Bw.to hP9 hD9 hK9 ht hW⟩⟩, hS.F ht⟩) hS.2.2 dX5_putInOrder_122
            · skip
              have gc_559 := ti_nle c_559 rfl kc_0
              refine lv_iload hx hb dX5_putInOrder_48 (lv_at hl 1 rfl) ?_
              refine lv_iload hx hb dX5_putInOrder_50 (lv_at hl 0 rfl) ?_
              refine lv_irem hx hb dX5_putInOrder_52 (ti_n0 rfl (by omega)) ?_
              refine lv_topi (fun x_560 ex_560 => ?_)
              have rg_x_560 := fb_rng x_560
              have qx_560 := ti_rem ex_560 rfl rfl (by omega) (by omega)
              refine lv_istore (lv' := [(7, .int x_560), (6, .int z_554), (5, .int z_555), (4, .int x_549), (0, .ref oS), (1, .int p0), (2, .int p1), (3, .int p2)]) hx hb dX5_putInOrder_53 hl (by decide) rfl (fun ls hl => ?_)
              refine lv_iload hx hb dX5_putInOrder_55 (lv_at hl 2 rfl) ?_
              refine lv_iload hx hb dX5_putInOrder_57 (lv_at hl 1 rfl) ?_
              refine lv_idiv hx hb dX5_putInOrder_59 (ti_n0 rfl (by omega)) ?_
              refine lv_topi (fun x_561 ex_561 => ?_)
              have rg_x_561 := fb_rng x_561
              have qx_561 := ti_div ex_561 rfl rfl (by omega) (by omega)
              refine lv_istore (lv' := [(5, .int x_561), (7, .int x_560), (6, .int z_554), (4, .int x_549), (0, .ref oS), (1, .int p0), (2, .int p1), (3, .int p2)]) hx hb dX5_putInOrder_60 hl (by decide) rfl (fun ls hl => ?_)
              refine lv_aload_n hx hb dX5_putInOrder_62 rfl (lv_at hl 4 rfl) ?_
              refine va_get (D := (dC, dI)) (ci := 5) (v := .ref rS_order) (C := RX5) (T := TX5) (N := 3) hx hb hts inX5 hown hK hP 0 rfl rfl 1 (by decide) (hts _ wd_129) (fun _ h9 => h9) rfl dX5_putInOrder_63 ?_
              refine lv_iload hx hb dX5_putInOrder_66 (lv_at hl 3 rfl) ?_
              refine lv_iload_n hx hb dX5_putInOrder_68 rfl (lv_at hl 6 rfl) ?_
              refine lv_iadd hx hb dX5_putInOrder_69 ?_
              refine lv_topi (fun x_562 ex_562 => ?_)
              have vx_562 : x_562.toInt = 4 * p0.toInt + p1.toInt := by have q := ti_add ex_562 vx_549 rfl (by omega) (by omega); omega
              refine lv_iload hx hb dX5_putInOrder_70 (lv_at hl 2 rfl) ?_
              refine lv_isub hx hb dX5_putInOrder_72 ?_
              refine lv_topi (fun x_563 ex_563 => ?_)
              have vx_563 : x_563.toInt = 4 * p0.toInt + p1.toInt + (-1) * z_554.toInt := by have q := ti_sub ex_563 vx_562 rfl (by omega) (by omega); omega
              refine lv_aload_n hx hb dX5_putInOrder_73 rfl (lv_at hl 4 rfl) ?_
              refine va_get (D := (dC, dI)) (ci := 5) (v := .ref rS_left) (C := RX5) (T := TX5) (N := 3) hx hb hts inX5 hown hK hP 0 rfl rfl 2 (by decide) (hts _ wd_130) (fun _ h9 => h9) rfl dX5_putInOrder_74 ?_
              refine lv_iload hx hb dX5_putInOrder_77 (lv_at hl 1 rfl) ?_
              refine va_iald hx hb hK hP 2 1 rfl rfl (ti_in rfl (by omega) (by omega)) dX5_putInOrder_79 ?_
              refine lv_topi (fun x_564 ex_564 => ?_)
              have rg_x_564 := fb_rng x_564
              have kx_564 : (f_557 x_560.toNatClampNeg).toInt = x_564.toInt := by rw [ex_564]
              have ux_564 := a_f_557 _ (by have q := ti_cl (x := x_560) rfl (by omega); omega : x_560.toNatClampNeg < 4)
              rw [show f_557 x_560.toNatClampNeg = x_564 from ex_564.symm] at ux_564
              refine vi_iast (lo := 0) (hi := 3) hx hb hK hP hD hS 1 0 rfl rfl (ti_in vx_563 (by omega) (by omega)) a_f_556 (by omega) dX5_putInOrder_80 (fun H locs f_565 a_f_565 hP hD hS => ?_)
              have hP : va_P (dC, dI) vwCl [(oS, .inr (5, [.ref rS_worths, .ref rS_order, .ref rS_left])), (rS_order, .inl (kS_order, 72, .inl f_565)), (rS_left, .inl (kS_left, 4, .inl f_557))] H := hP
              have hD : va_D A [(oS, .inr (5, [.ref rS_worths, .ref rS_order, .ref rS_left])), (rS_order, .inl (kS_order, 72, .inl f_565)), (rS_left, .inl (kS_left, 4, .inl f_557))] := hD
              refine lv_iload hx hb dX5_putInOrder_81 (lv_at hl 1 rfl) ?_
              refine lv_istore (lv' := [(8, .int x_560), (5, .int x_561), (7, .int x_560), (6, .int z_554), (4, .int x_549), (0, .ref oS), (1, .int p0), (2, .int p1), (3, .int p2)]) hx hb dX5_putInOrder_83 hl (by decide) rfl (fun ls hl => ?_)
              have hl := lv_sub hl (l' := [(8, .int x_560), (5, .int x_561), (7, .int x_560), (6, .int z_554), (4, .int x_549), (0, .ref oS), (1, .int p0), (2, .int p1), (3, .int p2)]) [0, 1, 2, 3, 4, 5, 6, 7, 8] rfl
              have key_n_568 : ∀ (n_568 : Nat) (z_566 : Int32) (f_567 : Nat → Int32) (H : Heap) (locs : List Loc) (ls : Array Slot), (∀ j : Nat, j < 4 → 0 ≤ (f_567 j).toInt ∧ (f_567 j).toInt ≤ 3) → (0 ≤ z_566.toInt ∧ z_566.toInt ≤ 2147483647) → (2147483647 - z_566.toInt).toNat < n_568 → va_P (dC, dI) vwCl [(oS, .inr (5, [.ref rS_worths, .ref rS_order, .ref rS_left])), (rS_order, .inl (kS_order, 72, .inl f_565)), (rS_left, .inl (kS_left, 4, .inl f_567))] H → va_D A [(oS, .inr (5, [.ref rS_worths, .ref rS_order, .ref rS_left])), (rS_order, .inl (kS_order, 72, .inl f_565)), (rS_left, .inl (kS_left, 4, .inl f_567))] → va_S A s.heap H locs → lv_has ls 9 [(8, .int z_566), (5, .int x_561), (7, .int x_560), (6, .int z_554), (4, .int x_549), (0, .ref oS), (1, .int p0), (2, .int p1), (3, .int p2)] → W p l e (headSpec (Cond.code yX5_putInOrder cX5_putInOrder 9 none :: wG) ({ frames := 0, cells := 0, slots := 0, locals := 0 })).room s m ([.ref oS, .int p0, .int p1, .int p2] : List Value).toArray below meth c H locs 0 0 (MQ below (va_Qv (fun (_ : Nat) => True) (fun (_ : Nat) (t : State) => ∃ (nfS_order : Nat → Int32) (nfS_left : Nat → Int32), (∀ j : Nat, j < 72 → 0 ≤ (nfS_order j).toInt ∧ (nfS_order j).toInt ≤ 3) ∧ (∀ j : Nat, j < 4 → 0 ≤ (nfS_left j).toInt ∧ (nfS_left j).toInt ≤ 3) ∧ Bw dC dI A [(oS, .inr (5, [.ref rS_worths, .ref rS_order, .ref rS_left])), (rS_order, .inl (kS_order, 72, .inl nfS_order)), (rS_left, .inl (kS_left, 4, .inl nfS_left))] [(kS_order, .int), (kS_left, .int)] t) A) ([.ref oS, .int p0, .int p1, .int p2] : List Value).toArray s 0 0 A) (F0 m 85 ls []) := by
                intro n_568
                induction n_568 with
                | zero => intro z_566 f_567 H locs ls a_f_567 hi0_n_568 hm; exact absurd hm (by omega)
                | succ n_568 ih_n_568 =>
                  intro z_566 f_567 H locs ls a_f_567 hi0_n_568 hm hP hD hS hl
                  have rg_z_566 := fb_rng z_566
                  refine lv_iload hx hb dX5_putInOrder_85 (lv_at hl 0 rfl) ?_
                  refine lv_iload hx hb dX5_putInOrder_87 (lv_at hl 3 rfl) ?_
                  refine lv_iconst (v := 1) hx hb dX5_putInOrder_89 (by decide) ?_
                  refine lv_isub hx hb dX5_putInOrder_90 ?_
                  refine lv_topi (fun x_569 ex_569 => ?_)
                  have vx_569 : x_569.toInt = z_554.toInt + (-1) := by have q := ti_sub ex_569 rfl kc_1 (by omega) (by omega); omega
                  refine lv_icmp_ge (tgt := 116) hx hb dX5_putInOrder_91 (by decide) (fun c_570 => ?_) (fun c_570 => ?_)
                  · skip
                    have gc_570 := ti_le c_570 vx_569 rfl
                    obtain ⟨x_571, ex_571⟩ : ∃ z : Int32, z = z_554 + Int32.ofInt (-1) := ⟨_, rfl⟩
                    have vx_571 : x_571.toInt = z_554.toInt + (-1) := by have q := ti_add (y := (-1)) ex_571 rfl kc_m1 (by omega) (by omega); omega
                    refine lv_iinc (v := x_571) (lv' := [(6, .int x_571), (8, .int z_566), (5, .int x_561), (7, .int x_560), (4, .int x_549), (0, .ref oS), (1, .int p0), (2, .int p1), (3, .int p2)]) hx hb dX5_putInOrder_116 hl (k := 3) rfl ex_571.symm (by decide) rfl (fun ls hl => ?_)
                    refine lv_goto (tgt := 43) hx hb dX5_putInOrder_119 (by decide) ?_
                    exact ih_n_558 x_571 x_561 f_565 f_567 _ _ _ a_f_565 a_f_567 (by first | omega | decide) (by first | omega | decide) (by omega) (hP.sub [0, 1, 2] rfl) (hD.sub [0, 1, 2] (by decide) rfl) hS (lv_sub hl [0, 2, 4, 5, 6, 7, 8] rfl)
                  · skip
                    have gc_570 := ti_nle c_570 vx_569 rfl
                    refine lv_aload_n hx hb dX5_putInOrder_94 rfl (lv_at hl 5 rfl) ?_
                    refine va_get (D := (dC, dI)) (ci := 5) (v := .ref rS_left) (C := RX5) (T := TX5) (N := 3) hx hb hts inX5 hown hK hP 0 rfl rfl 2 (by decide) (hts _ wd_130) (fun _ h9 => h9) rfl dX5_putInOrder_95 ?_
                    refine lv_iload hx hb dX5_putInOrder_98 (lv_at hl 0 rfl) ?_
                    refine lv_aload_n hx hb dX5_putInOrder_100 rfl (lv_at hl 5 rfl) ?_
                    refine va_get (D := (dC, dI)) (ci := 5) (v := .ref rS_left) (C := RX5) (T := TX5) (N := 3) hx hb hts inX5 hown hK hP 0 rfl rfl 2 (by decide) (hts _ wd_130) (fun _ h9 => h9) rfl dX5_putInOrder_101 ?_
                    refine lv_iload hx hb dX5_putInOrder_104 (lv_at hl 0 rfl) ?_
                    refine lv_iconst (v := 1) hx hb dX5_putInOrder_106 (by decide) ?_
                    refine lv_iadd hx hb dX5_putInOrder_107 ?_
                    refine lv_topi (fun x_572 ex_572 => ?_)
                    have vx_572 : x_572.toInt = z_566.toInt + 1 := by have q := ti_add ex_572 rfl kc_1 (by omega) (by omega); omega
                    refine va_iald hx hb hK hP 2 1 rfl rfl (ti_in vx_572 (by omega) (by omega)) dX5_putInOrder_108 ?_
                    refine lv_topi (fun x_573 ex_573 => ?_)
                    have rg_x_573 := fb_rng x_573
                    have kx_573 : (f_567 x_572.toNatClampNeg).toInt = x_573.toInt := by rw [ex_573]
                    have ux_573 := a_f_567 _ (by have q := ti_cl (x := x_572) vx_572 (by omega); omega : x_572.toNatClampNeg < 4)
                    rw [show f_567 x_572.toNatClampNeg = x_573 from ex_573.symm] at ux_573
                    refine vi_iast (lo := 0) (hi := 3) hx hb hK hP hD hS 2 1 rfl rfl (ti_in rfl (by omega) (by omega)) a_f_567 (by omega) dX5_putInOrder_109 (fun H locs f_574 a_f_574 hP hD hS => ?_)
                    have hP : va_P (dC, dI) vwCl [(oS, .inr (5, [.ref rS_worths, .ref rS_order, .ref rS_left])), (rS_order, .inl (kS_order, 72, .inl f_565)), (rS_left, .inl (kS_left, 4, .inl f_574))] H := hP
                    have hD : va_D A [(oS, .inr (5, [.ref rS_worths, .ref rS_order, .ref rS_left])), (rS_order, .inl (kS_order, 72, .inl f_565)), (rS_left, .inl (kS_left, 4, .inl f_574))] := hD
                    obtain ⟨x_575, ex_575⟩ : ∃ z : Int32, z = z_566 + Int32.ofInt 1 := ⟨_, rfl⟩
                    have vx_575 : x_575.toInt = z_566.toInt + 1 := by have q := ti_add (y := 1) ex_575 rfl kc_1 (by omega) (by omega); omega
                    refine lv_iinc (v := x_575) (lv' := [(8, .int x_575), (5, .int x_561), (7, .int x_560), (6, .int z_554), (4, .int x_549), (0, .ref oS), (1, .int p0), (2, .int p1), (3, .int p2)]) hx hb dX5_putInOrder_110 hl (k := 0) rfl ex_575.symm (by decide) rfl (fun ls hl => ?_)
                    refine lv_goto (tgt := 85) hx hb dX5_putInOrder_113 (by decide) ?_
                    exact ih_n_568 x_575 f_574 _ _ _ a_f_574 (by first | omega | decide) (by omega) (hP.sub [0, 1, 2] rfl) (hD.sub [0, 1, 2] (by decide) rfl) hS (lv_sub hl [0, 1, 2, 3, 4, 5, 6, 7, 8] rfl)
              exact key_n_568 ((2147483647 - x_560.toInt).toNat + 1) x_560 f_557 _ _ _ a_f_557 (by first | omega | decide) (by omega) hP hD hS hl
        exact key_n_558 (p1.toInt.toNat + 1) p1 p2 fS_order f_551 _ _ _ a_fS_order a_f_551 (by first | omega | decide) (by first | omega | decide) (by omega) hP hD hS hl
      · skip
        have gc_553 := ti_nle c_553 rfl rfl
        refine lv_aload_n hx hb dX5_putInOrder_14 rfl (lv_at hl 2 rfl) ?_
        refine va_get (D := (dC, dI)) (ci := 5) (v := .ref rS_left) (C := RX5) (T := TX5) (N := 3) hx hb hts inX5 hown hK hP 0 rfl rfl 2 (by decide) (hts _ wd_130) (fun _ h9 => h9) rfl dX5_putInOrder_15 ?_
        refine lv_iload hx hb dX5_putInOrder_18 (lv_at hl 0 rfl) ?_
        refine lv_aload_n hx hb dX5_putInOrder_20 rfl (lv_at hl 2 rfl) ?_
        refine va_get (D := (dC, dI)) (ci := 5) (v := .ref rS_order) (C := RX5) (T := TX5) (N := 3) hx hb hts inX5 hown hK hP 0 rfl rfl 1 (by decide) (hts _ wd_129) (fun _ h9 => h9) rfl dX5_putInOrder_21 ?_
        refine lv_iload hx hb dX5_putInOrder_24 (lv_at hl 1 rfl) ?_
        refine lv_iload hx hb dX5_putInOrder_26 (lv_at hl 0 rfl) ?_
        refine lv_iadd hx hb dX5_putInOrder_28 ?_
        refine lv_topi (fun x_576 ex_576 => ?_)
        have vx_576 : x_576.toInt = 4 * p0.toInt + z_550.toInt := by have q := ti_add ex_576 vx_549 rfl (by omega) (by omega); omega
        refine va_iald hx hb hK hP 1 0 rfl rfl (ti_in vx_576 (by omega) (by omega)) dX5_putInOrder_29 ?_
        refine lv_topi (fun x_577 ex_577 => ?_)
        have rg_x_577 := fb_rng x_577
        have kx_577 : (fS_order x_576.toNatClampNeg).toInt = x_577.toInt := by rw [ex_577]
        have ux_577 := a_fS_order _ (by have q := ti_cl (x := x_576) vx_576 (by omega); omega : x_576.toNatClampNeg < 72)
        rw [show fS_order x_576.toNatClampNeg = x_577 from ex_577.symm] at ux_577
        refine vi_iast (lo := 0) (hi := 3) hx hb hK hP hD hS 2 1 rfl rfl (ti_in rfl (by omega) (by omega)) a_f_551 (by omega) dX5_putInOrder_30 (fun H locs f_578 a_f_578 hP hD hS => ?_)
        have hP : va_P (dC, dI) vwCl [(oS, .inr (5, [.ref rS_worths, .ref rS_order, .ref rS_left])), (rS_order, .inl (kS_order, 72, .inl fS_order)), (rS_left, .inl (kS_left, 4, .inl f_578))] H := hP
        have hD : va_D A [(oS, .inr (5, [.ref rS_worths, .ref rS_order, .ref rS_left])), (rS_order, .inl (kS_order, 72, .inl fS_order)), (rS_left, .inl (kS_left, 4, .inl f_578))] := hD
        obtain ⟨x_579, ex_579⟩ : ∃ z : Int32, z = z_550 + Int32.ofInt 1 := ⟨_, rfl⟩
        have vx_579 : x_579.toInt = z_550.toInt + 1 := by have q := ti_add (y := 1) ex_579 rfl kc_1 (by omega) (by omega); omega
        refine lv_iinc (v := x_579) (lv' := [(5, .int x_579), (4, .int x_549), (0, .ref oS), (1, .int p0), (2, .int p1), (3, .int p2)]) hx hb dX5_putInOrder_31 hl (k := 0) rfl ex_579.symm (by decide) rfl (fun ls hl => ?_)
        refine lv_goto (tgt := 8) hx hb dX5_putInOrder_34 (by decide) ?_
        exact ih_n_552 x_579 f_578 _ _ _ a_f_578 (by first | omega | decide) (by omega) (hP.sub [0, 1, 2] rfl) (hD.sub [0, 1, 2] (by decide) rfl) hS (lv_sub hl [0, 1, 2, 3, 4, 5] rfl)
  exact key_n_552 ((2147483647 - (0 : Int32).toInt).toNat + 1) 0 fS_left _ _ _ a_fS_left (by first | omega | decide) (by omega) hP hD hS hl
set_option maxHeartbeats 4000000 in
set_option maxRecDepth 100000 in
theorem tX5_turnRound (l : Launch) (dC : Nat → ClassId) (dI : Nat → Nat → Nat) (sz : Nat) (oS : Nat) (rS_worths : Nat) (rS_order : Nat) (fS_order : Nat → Int32) (kS_order : ClassId) (rS_left : Nat) (oT : Nat) (rT_worths : Nat) (rT_order : Nat) (fT_order : Nat → Int32) (kT_order : ClassId) (rT_left : Nat) (p0 : Int32) (p1 : Int32) (p2 : Int32) (a_fS_order : ∀ j : Nat, j < 72 → 0 ≤ (fS_order j).toInt ∧ (fS_order j).toInt ≤ 3) (a_fT_order : ∀ j : Nat, j < 72 → 0 ≤ (fT_order j).toInt ∧ (fT_order j).toInt ≤ 3) (hp0 : 0 ≤ p0.toInt ∧ p0.toInt ≤ 17) (hp1 : 0 ≤ p1.toInt ∧ p1.toInt ≤ 4) (hp2 : 0 ≤ p2.toInt ∧ p2.toInt < p1.toInt) : Met l yX5_turnRound (Cond.code yX5_turnRound cX5_turnRound 8 none :: wG) ({ frames := 0, cells := 0, slots := 0, locals := 0 }) (va_Pc [.ref oS, .ref oT, .int p0, .int p1, .int p2] (Pw dC dI sz [(oS, .inr (5, [.ref rS_worths, .ref rS_order, .ref rS_left])), (rS_order, .inl (kS_order, 72, .inl fS_order)), (oT, .inr (5, [.ref rT_worths, .ref rT_order, .ref rT_left])), (rT_order, .inl (kT_order, 72, .inl fT_order))] [(kS_order, .int), (kT_order, .int)])) (va_Qv (fun (_ : Nat) => True) (fun (_ : Nat) (t : State) => ∃ (nfS_order : Nat → Int32), (∀ j : Nat, j < 72 → 0 ≤ (nfS_order j).toInt ∧ (nfS_order j).toInt ≤ 3) ∧ Bw dC dI (va_A [(oS, .inr (5, [.ref rS_worths, .ref rS_order, .ref rS_left])), (rS_order, .inl (kS_order, 72, .inl fS_order)), (oT, .inr (5, [.ref rT_worths, .ref rT_order, .ref rT_left])), (rT_order, .inl (kT_order, 72, .inl fT_order))] sz) [(oS, .inr (5, [.ref rS_worths, .ref rS_order, .ref rS_left])), (rS_order, .inl (kS_order, 72, .inl nfS_order)), (oT, .inr (5, [.ref rT_worths, .ref rT_order, .ref rT_left])), (rT_order, .inl (kT_order, 72, .inl fT_order))] [(kS_order, .int), (kT_order, .int)] t) (va_A [(oS, .inr (5, [.ref rS_worths, .ref rS_order, .ref rS_left])), (rS_order, .inl (kS_order, 72, .inl fS_order)), (oT, .inr (5, [.ref rT_worths, .ref rT_order, .ref rT_left])), (rT_order, .inl (kT_order, 72, .inl fT_order))] sz)) 0 0 (va_A [(oS, .inr (5, [.ref rS_worths, .ref rS_order, .ref rS_left])), (rS_order, .inl (kS_order, 72, .inl fS_order)), (oT, .inr (5, [.ref rT_worths, .ref rT_order, .ref rT_left])), (rT_order, .inl (kT_order, 72, .inl fT_order))] sz) := by
  refine Met.ofW (cc := cX5_turnRound) (maxL := 8) (ret := none) (by decide) rfl ?_
  intro p e s m args below meth c s₁ B hml hv
  obtain ⟨rfl, hsz, hP, hK, hD0, hE⟩ := hv
  have hx := B.exec
  have hb := B.bytes
  have hr := B.returns
  have hts : ∀ w ∈ wG, w.before ([.ref oS, .ref oT, .int p0, .int p1, .int p2] : List Value).toArray s = true := fun w h => atoms_spec (ws := Cond.code yX5_turnRound cX5_turnRound 8 none :: wG) B.pre w (List.mem_cons_of_mem _ h)
  have hown : s.vm.findClass RX5 = some m.cls := findClass_of_methodNamed B.named
  have hlocks := B.notSynchronized
  subst hsz
  have hD := hD0.self (sz := s.heap.size)
  generalize hAe : va_A [(oS, .inr (5, [.ref rS_worths, .ref rS_order, .ref rS_left])), (rS_order, .inl (kS_order, 72, .inl fS_order)), (oT, .inr (5, [.ref rT_worths, .ref rT_order, .ref rT_left])), (rT_order, .inl (kT_order, 72, .inl fT_order))] s.heap.size = A at hD hE ⊢
  have hA : ∀ q : Nat, s.heap.size ≤ q → A q := fun q h => by rw [← hAe]; exact Or.inr h
  have hS : va_S A s.heap s.heap [] := va_S.rf
  have hl := lv_entry ([.ref oS, .ref oT, .int p0, .int p1, .int p2]) (n := 8) (Nat.le_of_ble_eq_true rfl)
  rw [lg_entry_eq]
  generalize (lg_sl ([.ref oS, .ref oT, .int p0, .int p1, .int p2]) ++ List.replicate (8 - (lg_sl ([.ref oS, .ref oT, .int p0, .int p1, .int p2])).length) Slot.unset).toArray = ls at hl ⊢
  have hl : lv_has ls 8 [(0, .ref oS), (1, .ref oT), (2, .int p0), (3, .int p1), (4, .int p2)] := hl
  have rg_p0 := fb_rng p0
  have rg_p1 := fb_rng p1
  have rg_p2 := fb_rng p2
  refine lv_iload_n hx hb dX5_turnRound_0 rfl (lv_at hl 2 rfl) ?_
  refine lv_iconst (v := 4) hx hb dX5_turnRound_1 (by decide) ?_
  refine lv_imul hx hb dX5_turnRound_2 ?_
  refine lv_topi (fun x_609 ex_609 => ?_)
  have vx_609 : x_609.toInt = 4 * p0.toInt := by have q := ti_mul ex_609 rfl kc_4 (by omega) (by omega); omega
  refine lv_istore (lv' := [(5, .int x_609), (0, .ref oS), (1, .ref oT), (2, .int p0), (3, .int p1), (4, .int p2)]) hx hb dX5_turnRound_3 hl (by decide) rfl (fun ls hl => ?_)
  refine lv_iconst (v := 0) hx hb dX5_turnRound_5 (by decide) ?_
  refine lv_istore (lv' := [(6, .int 0), (5, .int x_609), (0, .ref oS), (1, .ref oT), (2, .int p0), (3, .int p1), (4, .int p2)]) hx hb dX5_turnRound_6 hl (by decide) rfl (fun ls hl => ?_)
  have hl := lv_sub hl (l' := [(6, .int 0), (5, .int x_609), (0, .ref oS), (1, .ref oT), (2, .int p0), (3, .int p1), (4, .int p2)]) [0, 1, 2, 3, 4, 5, 6] rfl
  have key_n_612 : ∀ (n_612 : Nat) (z_610 : Int32) (f_611 : Nat → Int32) (H : Heap) (locs : List Loc) (ls : Array Slot), (∀ j : Nat, j < 72 → 0 ≤ (f_611 j).toInt ∧ (f_611 j).toInt ≤ 3) → (0 ≤ z_610.toInt ∧ z_610.toInt ≤ 2147483647) → (2147483647 - z_610.toInt).toNat < n_612 → va_P (dC, dI) vwCl [(oS, .inr (5, [.ref rS_worths, .ref rS_order, .ref rS_left])), (rS_order, .inl (kS_order, 72, .inl f_611)), (oT, .inr (5, [.ref rT_worths, .ref rT_order, .ref rT_left])), (rT_order, .inl (kT_order, 72, .inl fT_order))] H → va_D A [(oS, .inr (5, [.ref rS_worths, .ref rS_order, .ref rS_left])), (rS_order, .inl (kS_order, 72, .inl f_611)), (oT, .inr (5, [.ref rT_worths, .ref rT_order, .ref rT_left])), (rT_order, .inl (kT_order, 72, .inl fT_order))] → va_S A s.heap H locs → lv_has ls 8 [(6, .int z_610), (5, .int x_609), (0, .ref oS), (1, .ref oT), (2, .int p0), (3, .int p1), (4, .int p2)] → W p l e (headSpec (Cond.code yX5_turnRound cX5_turnRound 8 none :: wG) ({ frames := 0, cells := 0, slots := 0, locals := 0 })).room s m ([.ref oS, .ref oT, .int p0, .int p1, .int p2] : List Value).toArray below meth c H locs 0 0 (MQ below (va_Qv (fun (_ : Nat) => True) (fun (_ : Nat) (t : State) => ∃ (nfS_order : Nat → Int32), (∀ j : Nat, j < 72 → 0 ≤ (nfS_order j).toInt ∧ (nfS_order j).toInt ≤ 3) ∧ Bw dC dI A [(oS, .inr (5, [.ref rS_worths, .ref rS_order, .ref rS_left])), (rS_order, .inl (kS_order, 72, .inl nfS_order)), (oT, .inr (5, [.ref rT_worths, .ref rT_order, .ref rT_left])), (rT_order, .inl (kT_order, 72, .inl fT_order))] [(kS_order, .int), (kT_order, .int)] t) A) ([.ref oS, .ref oT, .int p0, .int p1, .int p2] : List Value).toArray s 0 0 A) (F0 m 8 ls []) := by
    intro n_612
    induction n_612 with
    | zero => intro z_610 f_611 H locs ls a_f_611 hi0_n_612 hm; exact absurd hm (by omega)
    | succ n_612 ih_n_612 =>
      intro z_610 f_611 H locs ls a_f_611 hi0_n_612 hm hP hD hS hl
      have rg_z_610 := fb_rng z_610
      refine lv_iload hx hb dX5_turnRound_8 (lv_at hl 0 rfl) ?_
      refine lv_iload_n hx hb dX5_turnRound_10 rfl (lv_at hl 5 rfl) ?_
      refine lv_icmp_ge (tgt := 60) hx hb dX5_turnRound_11 (by decide) (fun c_613 => ?_) (fun c_613 => ?_)
      · skip
        have gc_613 := ti_le c_613 rfl rfl
        have hP9 := hP.sub (ws' := [(oS, .inr (5, [.ref rS_worths, .ref rS_order, .ref rS_left])), (rS_order, .inl (kS_order, 72, .inl f_611)), (oT, .inr (5, [.ref rT_worths, .ref rT_order, .ref rT_left])), (rT_order, .inl (kT_order, 72, .inl fT_order))]) [0, 1, 2, 3] rfl
        have hD9 := hD.sub (ws' := [(oS, .inr (5, [.ref rS_worths, .ref rS_order, .ref rS_left])), (rS_order, .inl (kS_order, 72, .inl f_611)), (oT, .inr (5, [.ref rT_worths, .ref rT_order, .ref rT_left])), (rT_order, .inl (kT_order, 72, .inl fT_order))]) [0, 1, 2, 3] (by decide) rfl
        have hK9 := hK.sub (tys' := [(kS_order, .int), (kT_order, .int)]) [0, 1] rfl
        exact W.vret hx hb hr (fun t ht hW => ⟨⟨0, rfl, trivial, ⟨f_611, a_f_611, Bw.to hP9 hD9 hK9 ht hW⟩⟩, hS.F ht⟩) hS.2.2 dX5_turnRound_60
      · skip
        have gc_613 := ti_nle c_613 rfl rfl
        refine lv_iload hx hb dX5_turnRound_14 (lv_at hl 0 rfl) ?_
        refine lv_iload hx hb dX5_turnRound_16 (lv_at hl 6 rfl) ?_
        refine lv_iadd hx hb dX5_turnRound_18 ?_
        refine lv_topi (fun x_614 ex_614 => ?_)
        have vx_614 : x_614.toInt = p2.toInt + z_610.toInt := by have q := ti_add ex_614 rfl rfl (by omega) (by omega); omega
        refine lv_istore (lv' := [(7, .int x_614), (6, .int z_610), (5, .int x_609), (0, .ref oS), (1, .ref oT), (2, .int p0), (3, .int p1), (4, .int p2)]) hx hb dX5_turnRound_19 hl (by decide) rfl (fun ls hl => ?_)
        refine lv_aload_n hx hb dX5_turnRound_21 rfl (lv_at hl 3 rfl) ?_
        refine va_get (D := (dC, dI)) (ci := 5) (v := .ref rS_order) (C := RX5) (T := TX5) (N := 3) hx hb hts inX5 hown hK hP 0 rfl rfl 1 (by decide) (hts _ wd_129) (fun _ h9 => h9) rfl dX5_turnRound_22 ?_
        refine lv_iload hx hb dX5_turnRound_25 (lv_at hl 2 rfl) ?_
        refine lv_iload hx hb dX5_turnRound_27 (lv_at hl 1 rfl) ?_
        refine lv_iadd hx hb dX5_turnRound_29 ?_
        refine lv_topi (fun x_615 ex_615 => ?_)
        have vx_615 : x_615.toInt = 4 * p0.toInt + z_610.toInt := by have q := ti_add ex_615 vx_609 rfl (by omega) (by omega); omega
        refine lv_aload_n hx hb dX5_turnRound_30 rfl (lv_at hl 4 rfl) ?_
        refine va_get (D := (dC, dI)) (ci := 5) (v := .ref rT_order) (C := RX5) (T := TX5) (N := 3) hx hb hts inX5 hown hK hP 2 rfl rfl 1 (by decide) (hts _ wd_129) (fun _ h9 => h9) rfl dX5_turnRound_31 ?_
        refine lv_iload hx hb dX5_turnRound_34 (lv_at hl 2 rfl) ?_
        refine lv_iload hx hb dX5_turnRound_36 (lv_at hl 0 rfl) ?_
        refine lv_iload_n hx hb dX5_turnRound_38 rfl (lv_at hl 6 rfl) ?_
        refine lv_icmp_ge (tgt := 47) hx hb dX5_turnRound_39 (by decide) (fun c_616 => ?_) (fun c_616 => ?_)
        · skip
          have gc_616 := ti_le c_616 rfl vx_614
          refine lv_iload hx hb dX5_turnRound_47 (lv_at hl 0 rfl) ?_
          refine lv_iload_n hx hb dX5_turnRound_49 rfl (lv_at hl 6 rfl) ?_
          refine lv_isub hx hb dX5_turnRound_50 ?_
          refine lv_topi (fun x_617 ex_617 => ?_)
          have vx_617 : x_617.toInt = (-1) * p1.toInt + p2.toInt + z_610.toInt := by have q := ti_sub ex_617 vx_614 rfl (by omega) (by omega); omega
          refine lv_iadd hx hb dX5_turnRound_51 ?_
          refine lv_topi (fun x_618 ex_618 => ?_)
          have vx_618 : x_618.toInt = 4 * p0.toInt + (-1) * p1.toInt + p2.toInt + z_610.toInt := by have q := ti_add ex_618 vx_609 vx_617 (by omega) (by omega); omega
          refine va_iald hx hb hK hP 3 1 rfl rfl (ti_in vx_618 (by omega) (by omega)) dX5_turnRound_52 ?_
          refine lv_topi (fun x_619 ex_619 => ?_)
          have rg_x_619 := fb_rng x_619
          have kx_619 : (fT_order x_618.toNatClampNeg).toInt = x_619.toInt := by rw [ex_619]
          have ux_619 := a_fT_order _ (by have q := ti_cl (x := x_618) vx_618 (by omega); omega : x_618.toNatClampNeg < 72)
          rw [show fT_order x_618.toNatClampNeg = x_619 from ex_619.symm] at ux_619
          refine vi_iast (lo := 0) (hi := 3) hx hb hK hP hD hS 1 0 rfl rfl (ti_in vx_615 (by omega) (by omega)) a_f_611 (by omega) dX5_turnRound_53 (fun H locs f_620 a_f_620 hP hD hS => ?_)
          have hP : va_P (dC, dI) vwCl [(oS, .inr (5, [.ref rS_worths, .ref rS_order, .ref rS_left])), (rS_order, .inl (kS_order, 72, .inl f_620)), (oT, .inr (5, [.ref rT_worths, .ref rT_order, .ref rT_left])), (rT_order, .inl (kT_order, 72, .inl fT_order))] H := hP
          have hD : va_D A [(oS, .inr (5, [.ref rS_worths, .ref rS_order, .ref rS_left])), (rS_order, .inl (kS_order, 72, .inl f_620)), (oT, .inr (5, [.ref rT_worths, .ref rT_order, .ref rT_left])), (rT_order, .inl (kT_order, 72, .inl fT_order))] := hD
          obtain ⟨x_621, ex_621⟩ : ∃ z : Int32, z = z_610 + Int32.ofInt 1 := ⟨_, rfl⟩
          have vx_621 : x_621.toInt = z_610.toInt + 1 := by have q := ti_add (y := 1) ex_621 rfl kc_1 (by omega) (by omega); omega
          refine lv_iinc (v := x_621) (lv' := [(6, .int x_621), (7, .int x_614), (5, .int x_609), (0, .ref oS), (1, .ref oT), (2, .int p0), (3, .int p1), (4, .int p2)]) hx hb dX5_turnRound_54 hl (k := 1) rfl ex_621.symm (by decide) rfl (fun ls hl => ?_)
          refine lv_goto (tgt := 8) hx hb dX5_turnRound_57 (by decide) ?_
          exact ih_n_612 x_621 f_620 _ _ _ a_f_620 (by first | omega | decide) (by omega) (hP.sub [0, 1, 2, 3] rfl) (hD.sub [0, 1, 2, 3] (by decide) rfl) hS (lv_sub hl [0, 2, 3, 4, 5, 6, 7] rfl)
        · skip
          have gc_616 := ti_nle c_616 rfl vx_614
          refine lv_iload hx hb dX5_turnRound_42 (lv_at hl 0 rfl) ?_
          refine lv_goto (tgt := 51) hx hb dX5_turnRound_44 (by decide) ?_
          refine lv_iadd hx hb dX5_turnRound_51 ?_
          refine lv_topi (fun x_622 ex_622 => ?_)
          have vx_622 : x_622.toInt = 4 * p0.toInt + p2.toInt + z_610.toInt := by have q := ti_add ex_622 vx_609 vx_614 (by omega) (by omega); omega
          refine va_iald hx hb hK hP 3 1 rfl rfl (ti_in vx_622 (by omega) (by omega)) dX5_turnRound_52 ?_
          refine lv_topi (fun x_623 ex_623 => ?_)
          have rg_x_623 := fb_rng x_623
          have kx_623 : (fT_order x_622.toNatClampNeg).toInt = x_623.toInt := by rw [ex_623]
          have ux_623 := a_fT_order _ (by have q := ti_cl (x := x_622) vx_622 (by omega); omega : x_622.toNatClampNeg < 72)
          rw [show fT_order x_622.toNatClampNeg = x_623 from ex_623.symm] at ux_623
          refine vi_iast (lo := 0) (hi := 3) hx hb hK hP hD hS 1 0 rfl rfl (ti_in vx_615 (by omega) (by omega)) a_f_611 (by omega) dX5_turnRound_53 (fun H locs f_624 a_f_624 hP hD hS => ?_)
          have hP : va_P (dC, dI) vwCl [(oS, .inr (5, [.ref rS_worths, .ref rS_order, .ref rS_left])), (rS_order, .inl (kS_order, 72, .inl f_624)), (oT, .inr (5, [.ref rT_worths, .ref rT_order, .ref rT_left])), (rT_order, .inl (kT_order, 72, .inl fT_order))] H := hP
          have hD : va_D A [(oS, .inr (5, [.ref rS_worths, .ref rS_order, .ref rS_left])), (rS_order, .inl (kS_order, 72, .inl f_624)), (oT, .inr (5, [.ref rT_worths, .ref rT_order, .ref rT_left])), (rT_order, .inl (kT_order, 72, .inl fT_order))] := hD
          obtain ⟨x_625, ex_625⟩ : ∃ z : Int32, z = z_610 + Int32.ofInt 1 := ⟨_, rfl⟩
          have vx_625 : x_625.toInt = z_610.toInt + 1 := by have q := ti_add (y := 1) ex_625 rfl kc_1 (by omega) (by omega); omega
          refine lv_iinc (v := x_625) (lv' := [(6, .int x_625), (7, .int x_614), (5, .int x_609), (0, .ref oS), (1, .ref oT), (2, .int p0), (3, .int p1), (4, .int p2)]) hx hb dX5_turnRound_54 hl (k := 1) rfl ex_625.symm (by decide) rfl (fun ls hl => ?_)
          refine lv_goto (tgt := 8) hx hb dX5_turnRound_57 (by decide) ?_
          exact ih_n_612 x_625 f_624 _ _ _ a_f_624 (by first | omega | decide) (by omega) (hP.sub [0, 1, 2, 3] rfl) (hD.sub [0, 1, 2, 3] (by decide) rfl) hS (lv_sub hl [0, 2, 3, 4, 5, 6, 7] rfl)
  exact key_n_612 ((2147483647 - (0 : Int32).toInt).toNat + 1) 0 fS_order _ _ _ a_fS_order (by first | omega | decide) (by omega) hP hD hS hl
set_option maxHeartbeats 4000000 in
set_option maxRecDepth 100000 in
theorem tX0_forget (l : Launch) (dC : Nat → ClassId) (dI : Nat → Nat → Nat) (sz : Nat) (oA : Nat) (iA_count : Int32) (rA_nodes : Nat) (rA_olds : Nat) (rA_says : Nat) (b_iA_count : 0 ≤ iA_count.toInt ∧ iA_count.toInt ≤ 16)  : Met l yX0_forget (Cond.code yX0_forget cX0_forget 1 none :: wG) ({ frames := 0, cells := 0, slots := 0, locals := 0 }) (va_Pc [.ref oA] (Pw dC dI sz [(oA, .inr (0, [.int iA_count, .ref rA_nodes, .ref rA_olds, .ref rA_says]))] [])) (va_Qv (fun (_ : Nat) => True) (fun (_ : Nat) (t : State) => ∃ (niA_count : Int32), (0 ≤ niA_count.toInt ∧ niA_count.toInt ≤ 0) ∧ Bw dC dI (va_A [(oA, .inr (0, [.int iA_count, .ref rA_nodes, .ref rA_olds, .ref rA_says]))] sz) [(oA, .inr (0, [.int niA_count, .ref rA_nodes, .ref rA_olds, .ref rA_says]))] [] t) (va_A [(oA, .inr (0, [.int iA_count, .ref rA_nodes, .ref rA_olds, .ref rA_says]))] sz)) 0 0 (va_A [(oA, .inr (0, [.int iA_count, .ref rA_nodes, .ref rA_olds, .ref rA_says]))] sz) := by
  refine Met.ofW (cc := cX0_forget) (maxL := 1) (ret := none) (by decide) rfl ?_
  intro p e s m args below meth c s₁ B hml hv
  obtain ⟨rfl, hsz, hP, hK, hD0, hE⟩ := hv
  have hx := B.exec
  have hb := B.bytes
  have hr := B.returns
  have hts : ∀ w ∈ wG, w.before ([.ref oA] : List Value).toArray s = true := fun w h => atoms_spec (ws := Cond.code yX0_forget cX0_forget 1 none :: wG) B.pre w (List.mem_cons_of_mem _ h)
  have hown : s.vm.findClass RX0 = some m.cls := findClass_of_methodNamed B.named
  have hlocks := B.notSynchronized
  subst hsz
  have hD := hD0.self (sz := s.heap.size)
  generalize hAe : va_A [(oA, .inr (0, [.int iA_count, .ref rA_nodes, .ref rA_olds, .ref rA_says]))] s.heap.size = A at hD hE ⊢
  have hA : ∀ q : Nat, s.heap.size ≤ q → A q := fun q h => by rw [← hAe]; exact Or.inr h
  have hS : va_S A s.heap s.heap [] := va_S.rf
  have hl := lv_entry ([.ref oA]) (n := 1) (Nat.le_of_ble_eq_true rfl)
  rw [lg_entry_eq]
  generalize (lg_sl ([.ref oA]) ++ List.replicate (1 - (lg_sl ([.ref oA])).length) Slot.unset).toArray = ls at hl ⊢
  have hl : lv_has ls 1 [(0, .ref oA)] := hl
  refine lv_aload_n hx hb dX0_forget_0 rfl (lv_at hl 0 rfl) ?_
  refine lv_iconst (v := 0) hx hb dX0_forget_1 (by decide) ?_
  refine va_put (D := (dC, dI)) (ci := 0) (v := .int 0) (ty := .int) (C := RX0) (T := TX0) (N := 4) hx hb hts inX0 tyX0 tyX0_ok nmX0 hown hK hP hD hS 0 rfl rfl 0 (by decide) (hts _ wd_374) (fun _ h9 => h9) rfl (by decide +kernel) rfl rfl (Nat.le_of_ble_eq_true rfl) dX0_forget_2 (fun H locs hP hD hS => ?_)
  have hP : va_P (dC, dI) vwCl [(oA, .inr (0, [.int 0, .ref rA_nodes, .ref rA_olds, .ref rA_says]))] H := hP
  have hD : va_D A [(oA, .inr (0, [.int 0, .ref rA_nodes, .ref rA_olds, .ref rA_says]))] := hD
  have hP9 := hP.sub (ws' := [(oA, .inr (0, [.int 0, .ref rA_nodes, .ref rA_olds, .ref rA_says]))]) [0] rfl
  have hD9 := hD.sub (ws' := [(oA, .inr (0, [.int 0, .ref rA_nodes, .ref rA_olds, .ref rA_says]))]) [0] (by decide) rfl
  have hK9 := hK.sub (tys' := []) [] rfl
  exact W.vret hx hb hr (fun t ht hW => ⟨⟨0, rfl, trivial, ⟨0, (by decide), Bw.to hP9 hD9 hK9 ht hW⟩⟩, hS.F ht⟩) hS.2.2 dX0_forget_5
