set_option maxHeartbeats 4000000 in
set_option maxRecDepth 100000 in
theorem tX7_weightsOf_x (l : Launch) (dC : Nat → ClassId) (dI : Nat → Nat → Nat) (sz : Nat) (oM : Nat) (iM_thrown : Int32) (rM_tape : Nat) (iM_taped : Int32) (iM_size : Int32) (iM_at : Int32) (iM_end : Int32) (iM_token : Int32) (iM_whole : Int32) (iM_nameSize : Int32) (iM_fault : Int32) (iM_place : Int32) (iM_trouble : Int32) (rM_letters : Nat) (iM_failed : Int32) (iM_hasCourt : Int32) (rM_r : Nat) (fM_r : Nat → Int32) (kM_r : ClassId) (rM_fresh : Nat) (rM_told : Nat) (rM_read : Nat) (rM_st : Nat) (rM_undone : Nat) (rM_kept : Nat) (iM_undos : Int32) (iM_images : Int32) (rM_fresher : Nat) (iM_fresherSize : Int32) (iM_scale : Int32) (iM_night : Int32) (rM_heardRow : Nat) (rM_cutRow : Nat) (iM_breaths : Int32) (iM_cutMany : Int32) (iM_allBreaths : Int32) (rM_trial : Nat) (rM_words : Nat) (iM_fewestBreaths : Int32) (iM_orderMany : Int32) (iM_orderSum : Int32) (iM_leastOrder : Int32) (rM_often : Nat) (iM_setMany : Int32) (iM_someOf : Int32) (iM_allOf : Int32) (iM_allWeight : Int64) (iM_enoughWeight : Int64) (iM_worthSum : Int64) (iM_firstRest : Int32) (iM_leastDrawn : Int32) (p0 : Int32) (b_iM_taped : 0 ≤ iM_taped.toInt ∧ iM_taped.toInt ≤ 900) (b_iM_size : 0 ≤ iM_size.toInt ∧ iM_size.toInt ≤ 900) (b_iM_end : 0 ≤ iM_end.toInt ∧ iM_end.toInt ≤ 900) (b_iM_failed : 0 ≤ iM_failed.toInt ∧ iM_failed.toInt ≤ 1) (b_iM_hasCourt : 0 ≤ iM_hasCourt.toInt ∧ iM_hasCourt.toInt ≤ 1) (b_iM_undos : 0 ≤ iM_undos.toInt ∧ iM_undos.toInt ≤ 16) (b_iM_images : 0 ≤ iM_images.toInt ∧ iM_images.toInt ≤ 3) (b_iM_scale : 1 ≤ iM_scale.toInt ∧ iM_scale.toInt ≤ 1296) (b_iM_breaths : 0 ≤ iM_breaths.toInt ∧ iM_breaths.toInt ≤ 399) (b_iM_cutMany : 0 ≤ iM_cutMany.toInt ∧ iM_cutMany.toInt ≤ 399) (r_R : ROk fM_r) (r_C : iM_hasCourt.toInt ≤ 0 ∨ (1 ≤ (fM_r 1).toInt ∧ 0 ≤ (fM_r 6).toInt ∧ (fM_r 6).toInt < (fM_r 1).toInt)) (hk0 : 0 ≤ p0.toInt ∧ p0.toInt < (fM_r 1).toInt) (hk3 : (fM_r (9 + p0.toNatClampNeg)).toInt = 3) : Met l yX7_weightsOf (Cond.code yX7_weightsOf cX7_weightsOf 4 (some .int) :: wG) ({ frames := 0, cells := 0, slots := 0, locals := 0 }) (va_Pc [.ref oM, .int p0] (Pw dC dI sz [(oc7 oM iM_thrown rM_tape iM_taped iM_size iM_at iM_end iM_token iM_whole iM_nameSize iM_fault iM_place iM_trouble rM_letters iM_failed iM_hasCourt rM_r rM_fresh rM_told rM_read rM_st rM_undone rM_kept iM_undos iM_images rM_fresher iM_fresherSize iM_scale iM_night rM_heardRow rM_cutRow iM_breaths iM_cutMany iM_allBreaths rM_trial rM_words iM_fewestBreaths iM_orderMany iM_orderSum iM_leastOrder rM_often iM_setMany iM_someOf iM_allOf iM_allWeight iM_enoughWeight iM_worthSum iM_firstRest iM_leastDrawn), (arI rM_r kM_r 287 fM_r)] [(kM_r, .int)])) (va_Qi (fun (r : Int32) (_ : Nat) => True ∧ ((1 ≤ r.toInt ∧ r.toInt ≤ 36) ∧ r = sum32 (fun i => fM_r (45 + 4 * p0.toNatClampNeg + i)) (fM_r (27 + p0.toNatClampNeg)).toInt.toNat)) (fun (_ : Nat) (t : State) => Bw dC dI (va_A [(oc7 oM iM_thrown rM_tape iM_taped iM_size iM_at iM_end iM_token iM_whole iM_nameSize iM_fault iM_place iM_trouble rM_letters iM_failed iM_hasCourt rM_r rM_fresh rM_told rM_read rM_st rM_undone rM_kept iM_undos iM_images rM_fresher iM_fresherSize iM_scale iM_night rM_heardRow rM_cutRow iM_breaths iM_cutMany iM_allBreaths rM_trial rM_words iM_fewestBreaths iM_orderMany iM_orderSum iM_leastOrder rM_often iM_setMany iM_someOf iM_allOf iM_allWeight iM_enoughWeight iM_worthSum iM_firstRest iM_leastDrawn), (arI rM_r kM_r 287 fM_r)] sz) [(oc7 oM iM_thrown rM_tape iM_taped iM_size iM_at iM_end iM_token iM_whole iM_nameSize iM_fault iM_place iM_trouble rM_letters iM_failed iM_hasCourt rM_r rM_fresh rM_told rM_read rM_st rM_undone rM_kept iM_undos iM_images rM_fresher iM_fresherSize iM_scale iM_night rM_heardRow rM_cutRow iM_breaths iM_cutMany iM_allBreaths rM_trial rM_words iM_fewestBreaths iM_orderMany iM_orderSum iM_leastOrder rM_often iM_setMany iM_someOf iM_allOf iM_allWeight iM_enoughWeight iM_worthSum iM_firstRest iM_leastDrawn), (arI rM_r kM_r 287 fM_r)] [(kM_r, .int)] t) (va_A [(oc7 oM iM_thrown rM_tape iM_taped iM_size iM_at iM_end iM_token iM_whole iM_nameSize iM_fault iM_place iM_trouble rM_letters iM_failed iM_hasCourt rM_r rM_fresh rM_told rM_read rM_st rM_undone rM_kept iM_undos iM_images rM_fresher iM_fresherSize iM_scale iM_night rM_heardRow rM_cutRow iM_breaths iM_cutMany iM_allBreaths rM_trial rM_words iM_fewestBreaths iM_orderMany iM_orderSum iM_leastOrder rM_often iM_setMany iM_someOf iM_allOf iM_allWeight iM_enoughWeight iM_worthSum iM_firstRest iM_leastDrawn), (arI rM_r kM_r 287 fM_r)] sz)) 0 0 (va_A [(oc7 oM iM_thrown rM_tape iM_taped iM_size iM_at iM_end iM_token iM_whole iM_nameSize iM_fault iM_place iM_trouble rM_letters iM_failed iM_hasCourt rM_r rM_fresh rM_told rM_read rM_st rM_undone rM_kept iM_undos iM_images rM_fresher iM_fresherSize iM_scale iM_night rM_heardRow rM_cutRow iM_breaths iM_cutMany iM_allBreaths rM_trial rM_words iM_fewestBreaths iM_orderMany iM_orderSum iM_leastOrder rM_often iM_setMany iM_someOf iM_allOf iM_allWeight iM_enoughWeight iM_worthSum iM_firstRest iM_leastDrawn), (arI rM_r kM_r 287 fM_r)] sz) := by
  refine Met.ofW (cc := cX7_weightsOf) (maxL := 4) (ret := (some .int)) pnX7 rfl ?_
  intro p e s m args below meth c s₁ B hml hv
  obtain ⟨rfl, hsz, hP, hK, hD0, hE⟩ := hv
  have hx := B.exec
  have hb := B.bytes
  have hr := B.returns
  have hts : ∀ w ∈ wG, w.before ([.ref oM, .int p0] : List Value).toArray s = true := fun w h => atoms_spec (ws := Cond.code yX7_weightsOf cX7_weightsOf 4 (some .int) :: wG) B.pre w (List.mem_cons_of_mem _ h)
  have hown : s.vm.findClass RX7 = some m.cls := own_of B.named rfl
  have hlocks := B.notSynchronized
  subst hsz
  have hD := hD0.self (sz := s.heap.size)
  generalize hAe : va_A [(oc7 oM iM_thrown rM_tape iM_taped iM_size iM_at iM_end iM_token iM_whole iM_nameSize iM_fault iM_place iM_trouble rM_letters iM_failed iM_hasCourt rM_r rM_fresh rM_told rM_read rM_st rM_undone rM_kept iM_undos iM_images rM_fresher iM_fresherSize iM_scale iM_night rM_heardRow rM_cutRow iM_breaths iM_cutMany iM_allBreaths rM_trial rM_words iM_fewestBreaths iM_orderMany iM_orderSum iM_leastOrder rM_often iM_setMany iM_someOf iM_allOf iM_allWeight iM_enoughWeight iM_worthSum iM_firstRest iM_leastDrawn), (arI rM_r kM_r 287 fM_r)] s.heap.size = A at hD hE ⊢
  have hA : ∀ q : Nat, s.heap.size ≤ q → A q := fun q h => by rw [← hAe]; exact Or.inr h
  have hS : va_S A s.heap s.heap [] := va_S.rf
  have hl := lv_entry ([.ref oM, .int p0]) (n := 4) (Nat.le_of_ble_eq_true rfl)
  rw [lg_entry_eq]
  generalize (lg_sl ([.ref oM, .int p0]) ++ List.replicate (4 - (lg_sl ([.ref oM, .int p0])).length) Slot.unset).toArray = ls at hl ⊢
  have hl : lv_has ls 4 [(0, .ref oM), (1, .int p0)] := hl
  have s_slips := r_R.slips
  have s_nodes := r_R.nodes
  have s_uns := r_R.uns
  have q_p0 := ti_cl (x := p0) rfl (om_83bd56b0 hk0.1)
  have mn_p0 := r_R.many (27 + p0.toNatClampNeg) (by omega) (by omega)
  have kn_p0 := r_R.kind (9 + p0.toNatClampNeg) (by omega) (by omega)
  have in_p0 := r_R.inner p0.toNatClampNeg (by omega)
  have ix_p0 : 1 ≤ (fM_r (27 + p0.toNatClampNeg)).toInt := in_p0 (by omega)
  refine lv_iconst (v := 0) hx hb dX7_weightsOf_0 (by decide) ?_
  refine lv_istore_n (lv' := [(2, .int 0), (0, .ref oM), (1, .int p0)]) hx hb dX7_weightsOf_1 rfl hl (by decide) rfl (fun ls hl => ?_)
  refine lv_iconst (v := 0) hx hb dX7_weightsOf_2 (by decide) ?_
  refine lv_istore_n (lv' := [(3, .int 0), (2, .int 0), (0, .ref oM), (1, .int p0)]) hx hb dX7_weightsOf_3 rfl hl (by decide) rfl (fun ls hl => ?_)
  have hl := lv_sub hl (l' := [(3, .int 0), (2, .int 0), (0, .ref oM), (1, .int p0)]) [0, 1, 2, 3] rfl
  have key_n_4548 : ∀ (n_4548 : Nat) (z_4546 : Int32) (z_4547 : Int32) (H : Heap) (locs : List Loc) (ls : Array Slot), (0 ≤ z_4546.toInt ∧ z_4546.toInt ≤ 4) → (z_4546.toInt ≤ z_4547.toInt ∧ z_4547.toInt ≤ 9 * z_4546.toInt) → (z_4546.toInt ≤ (fM_r (27 + p0.toNatClampNeg)).toInt) → (z_4547 = sum32 (fun i => fM_r (45 + 4 * p0.toNatClampNeg + i)) z_4546.toNatClampNeg) → (4 - z_4546.toInt).toNat < n_4548 → va_P (dC, dI) vwCl [(oc7 oM iM_thrown rM_tape iM_taped iM_size iM_at iM_end iM_token iM_whole iM_nameSize iM_fault iM_place iM_trouble rM_letters iM_failed iM_hasCourt rM_r rM_fresh rM_told rM_read rM_st rM_undone rM_kept iM_undos iM_images rM_fresher iM_fresherSize iM_scale iM_night rM_heardRow rM_cutRow iM_breaths iM_cutMany iM_allBreaths rM_trial rM_words iM_fewestBreaths iM_orderMany iM_orderSum iM_leastOrder rM_often iM_setMany iM_someOf iM_allOf iM_allWeight iM_enoughWeight iM_worthSum iM_firstRest iM_leastDrawn), (arI rM_r kM_r 287 fM_r)] H → va_D A [(oc7 oM iM_thrown rM_tape iM_taped iM_size iM_at iM_end iM_token iM_whole iM_nameSize iM_fault iM_place iM_trouble rM_letters iM_failed iM_hasCourt rM_r rM_fresh rM_told rM_read rM_st rM_undone rM_kept iM_undos iM_images rM_fresher iM_fresherSize iM_scale iM_night rM_heardRow rM_cutRow iM_breaths iM_cutMany iM_allBreaths rM_trial rM_words iM_fewestBreaths iM_orderMany iM_orderSum iM_leastOrder rM_often iM_setMany iM_someOf iM_allOf iM_allWeight iM_enoughWeight iM_worthSum iM_firstRest iM_leastDrawn), (arI rM_r kM_r 287 fM_r)] → va_S A s.heap H locs → lv_has ls 4 [(3, .int z_4546), (2, .int z_4547), (0, .ref oM), (1, .int p0)] → W p l e (headSpec (Cond.code yX7_weightsOf cX7_weightsOf 4 (some .int) :: wG) ({ frames := 0, cells := 0, slots := 0, locals := 0 })).room s m ([.ref oM, .int p0] : List Value).toArray below meth c H locs 0 0 (MQ below (va_Qi (fun (r : Int32) (_ : Nat) => True ∧ ((1 ≤ r.toInt ∧ r.toInt ≤ 36) ∧ r = sum32 (fun i => fM_r (45 + 4 * p0.toNatClampNeg + i)) (fM_r (27 + p0.toNatClampNeg)).toInt.toNat)) (fun (_ : Nat) (t : State) => Bw dC dI A [(oc7 oM iM_thrown rM_tape iM_taped iM_size iM_at iM_end iM_token iM_whole iM_nameSize iM_fault iM_place iM_trouble rM_letters iM_failed iM_hasCourt rM_r rM_fresh rM_told rM_read rM_st rM_undone rM_kept iM_undos iM_images rM_fresher iM_fresherSize iM_scale iM_night rM_heardRow rM_cutRow iM_breaths iM_cutMany iM_allBreaths rM_trial rM_words iM_fewestBreaths iM_orderMany iM_orderSum iM_leastOrder rM_often iM_setMany iM_someOf iM_allOf iM_allWeight iM_enoughWeight iM_worthSum iM_firstRest iM_leastDrawn), (arI rM_r kM_r 287 fM_r)] [(kM_r, .int)] t) A) ([.ref oM, .int p0] : List Value).toArray s 0 0 A) (F0 m 4 ls []) := by
    intro n_4548
    induction n_4548 with
    | zero => intro z_4546 z_4547 H locs ls hi0_n_4548 hi1_n_4548 hi2_n_4548 hi3_n_4548 hm; exact absurd hm (Nat.not_lt_zero _)
    | succ n_4548 ih_n_4548 =>
      intro z_4546 z_4547 H locs ls hi0_n_4548 hi1_n_4548 hi2_n_4548 hi3_n_4548 hm_n_4548 hP hD hS hl
      refine lv_iload_n hx hb dX7_weightsOf_4 rfl (lv_at hl 0 rfl) ?_
      refine lv_aload_n hx hb dX7_weightsOf_5 rfl (lv_at hl 2 rfl) ?_
      refine va_get (D := (dC, dI)) (ci := 7) (v := .ref rM_r) (C := RX7) (T := TX7) (N := 48) hx hb hts inX7 hown hK hP 0 rfl rfl 15 (by decide) (hts _ wd_155) (fun _ h9 => h9) rfl dX7_weightsOf_6 ?_
      refine lv_bipush (v := 27) hx hb dX7_weightsOf_9 (by decide) ?_
      refine lv_iload_n hx hb dX7_weightsOf_11 rfl (lv_at hl 3 rfl) ?_
      refine lv_iadd hx hb dX7_weightsOf_12 ?_
      refine lv_topi (fun x_4549 ex_4549 => ?_)
      have vx_4549 : x_4549.toInt = p0.toInt + 27 := om_6c48219a (ti_add ex_4549 kc_27 rfl (om_edd3f7cf hk0.1) (om_cf6669ce hk0.2 s_nodes.2))
      refine va_iald hx hb hK hP 1 0 rfl rfl (ti_in vx_4549 (om_b4b48b7f hk0.1) (om_420abfc6 hk0.2 s_nodes.2)) dX7_weightsOf_13 ?_
      refine lv_topi (fun x_4550 ex_4550 => ?_)
      have kx_4550 : (fM_r x_4549.toNatClampNeg).toInt = x_4550.toInt := by rw [ex_4550]
      have cx_4550 : (fM_r (27 + p0.toNatClampNeg)).toInt = x_4550.toInt := by rw [show 27 + p0.toNatClampNeg = x_4549.toNatClampNeg from by have q9 := ti_cl (x := x_4549) vx_4549 (om_b4b48b7f hk0.1); have q_p0 := ti_cl (x := p0) rfl (om_83bd56b0 hk0.1); omega]; exact kx_4550
      have sx_4550 := r_R.many x_4549.toNatClampNeg (by have q9 := ti_cl (x := x_4549) vx_4549 (om_b4b48b7f hk0.1); omega) (by have q9 := ti_cl (x := x_4549) vx_4549 (om_b4b48b7f hk0.1); omega)
      refine lv_icmp_ge (tgt := 39) hx hb dX7_weightsOf_14 (by decide) (fun c_4551 => ?_) (fun c_4551 => ?_)
      · skip
        have gc_4551 := ti_le c_4551 rfl rfl
        refine lv_iload_n hx hb dX7_weightsOf_39 rfl (lv_at hl 1 rfl) ?_
        exact wq_i hx hb hr 0 ⟨trivial, ⟨by omega, by rw [show (fM_r (27 + p0.toNatClampNeg)).toInt.toNat = z_4546.toNatClampNeg from by have q1 := ti_cl (x := z_4546) rfl (by omega); omega]; exact hi3_n_4548⟩⟩ (fun t ht hW => Bw.to hP hD hK ht hW) hS dX7_weightsOf_40 hlocks
      · skip
        have gc_4551 := ti_nle c_4551 rfl rfl
        refine lv_iload_n hx hb dX7_weightsOf_17 rfl (lv_at hl 1 rfl) ?_
        refine lv_aload_n hx hb dX7_weightsOf_18 rfl (lv_at hl 2 rfl) ?_
        refine va_get (D := (dC, dI)) (ci := 7) (v := .ref rM_r) (C := RX7) (T := TX7) (N := 48) hx hb hts inX7 hown hK hP 0 rfl rfl 15 (by decide) (hts _ wd_155) (fun _ h9 => h9) rfl dX7_weightsOf_19 ?_
        refine lv_bipush (v := 45) hx hb dX7_weightsOf_22 (by decide) ?_
        refine lv_iconst (v := 4) hx hb dX7_weightsOf_24 (by decide) ?_
        refine lv_iload_n hx hb dX7_weightsOf_25 rfl (lv_at hl 3 rfl) ?_
        refine lv_imul hx hb dX7_weightsOf_26 ?_
        refine lv_topi (fun x_4552 ex_4552 => ?_)
        have vx_4552 : x_4552.toInt = 4 * p0.toInt := ti_mul ex_4552 kc_4 rfl (om_56b74365 hk0.1) (om_eac0354e hk0.2 s_nodes.2)
        refine lv_iadd hx hb dX7_weightsOf_27 ?_
        refine lv_topi (fun x_4553 ex_4553 => ?_)
        have vx_4553 : x_4553.toInt = 4 * p0.toInt + 45 := om_702bf7ac (ti_add ex_4553 kc_45 vx_4552 (om_500c1a9b hk0.1) (om_dd0f51e3 hk0.2 s_nodes.2))
        refine lv_iload_n hx hb dX7_weightsOf_28 rfl (lv_at hl 0 rfl) ?_
        refine lv_iadd hx hb dX7_weightsOf_29 ?_
        refine lv_topi (fun x_4554 ex_4554 => ?_)
        have vx_4554 : x_4554.toInt = 4 * p0.toInt + z_4546.toInt + 45 := om_0ab12ad6 (ti_add ex_4554 vx_4553 rfl (om_d3cea498 hk0.1 hi1_n_4548.1 hi1_n_4548.2) (om_80d40543 hk0.2 s_nodes.2 hi0_n_4548.2))
        refine va_iald hx hb hK hP 1 0 rfl rfl (ti_in vx_4554 (om_490a301f hk0.1 hi1_n_4548.1 hi1_n_4548.2) (om_34e445bb hk0.2 s_nodes.2 hi0_n_4548.2)) dX7_weightsOf_30 ?_
        refine lv_topi (fun x_4555 ex_4555 => ?_)
        have kx_4555 : (fM_r x_4554.toNatClampNeg).toInt = x_4555.toInt := by rw [ex_4555]
        have cx_4555 : (fM_r (45 + 4 * p0.toNatClampNeg + z_4546.toNatClampNeg)).toInt = x_4555.toInt := by rw [show 45 + 4 * p0.toNatClampNeg + z_4546.toNatClampNeg = x_4554.toNatClampNeg from by have q9 := ti_cl (x := x_4554) vx_4554 (om_490a301f hk0.1 hi1_n_4548.1 hi1_n_4548.2); have q_p0 := ti_cl (x := p0) rfl (om_83bd56b0 hk0.1); have q_z_4546 := ti_cl (x := z_4546) rfl (om_34a97137 hi1_n_4548.1 hi1_n_4548.2); omega]; exact kx_4555
        have sx_4555 := r_R.wts x_4554.toNatClampNeg (by have q9 := ti_cl (x := x_4554) vx_4554 (om_490a301f hk0.1 hi1_n_4548.1 hi1_n_4548.2); omega) (by have q9 := ti_cl (x := x_4554) vx_4554 (om_490a301f hk0.1 hi1_n_4548.1 hi1_n_4548.2); omega)
        have xx_4555 := r_R.chance p0.toNatClampNeg z_4546.toNatClampNeg (by have q_1 := ti_cl (x := p0) rfl (om_83bd56b0 hk0.1); have q_2 := ti_cl (x := z_4546) rfl (om_34a97137 hi1_n_4548.1 hi1_n_4548.2); omega) (by omega) (by have q_1 := ti_cl (x := p0) rfl (om_83bd56b0 hk0.1); have q_2 := ti_cl (x := z_4546) rfl (om_34a97137 hi1_n_4548.1 hi1_n_4548.2); omega)
        have xx_4555 : 1 ≤ x_4555.toInt := by have q_3 := cx_4555; rw [show 45 + 4 * p0.toNatClampNeg + z_4546.toNatClampNeg = 45 + 4 * p0.toNatClampNeg + z_4546.toNatClampNeg from by omega] at xx_4555; omega
        refine lv_iadd hx hb dX7_weightsOf_31 ?_
        refine lv_topi (fun x_4556 ex_4556 => ?_)
        have vx_4556 : x_4556.toInt = x_4555.toInt + z_4547.toInt := om_73fe24c2 (ti_add ex_4556 rfl rfl (om_d91c9d42 hi1_n_4548.1 hi1_n_4548.2 xx_4555) (om_243ebd5d hi0_n_4548.2 hi1_n_4548.2 kx_4555 sx_4555.2))
        refine lv_istore_n (lv' := [(2, .int x_4556), (3, .int z_4546), (0, .ref oM), (1, .int p0)]) hx hb dX7_weightsOf_32 rfl hl (by decide) rfl (fun ls hl => ?_)
        obtain ⟨x_4557, ex_4557⟩ : ∃ z : Int32, z = z_4546 + Int32.ofInt 1 := ⟨_, rfl⟩
        have vx_4557 : x_4557.toInt = z_4546.toInt + 1 := ti_add (y := 1) ex_4557 rfl kc_1 (om_624da9f7 hi1_n_4548.1 hi1_n_4548.2) (om_bae2951a hi0_n_4548.2)
        refine lv_iinc (v := x_4557) (lv' := [(3, .int x_4557), (2, .int x_4556), (0, .ref oM), (1, .int p0)]) hx hb dX7_weightsOf_33 hl (k := 1) rfl ex_4557.symm (by decide) rfl (fun ls hl => ?_)
        refine lv_goto (tgt := 4) hx hb dX7_weightsOf_36 (by decide) ?_
        exact ih_n_4548 x_4557 x_4556 _ _ _  ⟨(om_f056fc11 hi1_n_4548.1 hi1_n_4548.2 vx_4557), (om_8267bec5 mn_p0.2 cx_4550 gc_4551 vx_4557)⟩ (by first | (exact ⟨by omega, by omega⟩) | omega | decide | assumption) (om_1ad1f819 cx_4550 gc_4551 vx_4557) (sum_step (z := x_4555) hi3_n_4548 ex_4556 (by have q := cx_4555; rw [show 45 + 4 * p0.toNatClampNeg + z_4546.toNatClampNeg = 45 + 4 * p0.toNatClampNeg + z_4546.toNatClampNeg from by omega]; exact q) (by have q1 := ti_cl (x := x_4557) vx_4557 (om_5ae9c2ed hi1_n_4548.1 hi1_n_4548.2); have q2 := ti_cl (x := z_4546) rfl (om_34a97137 hi1_n_4548.1 hi1_n_4548.2); omega)) (ms_lt hm_n_4548 (om_ed22490e vx_4557) (om_e4be4046 mn_p0.2 cx_4550 gc_4551)) hP hD hS (lv_sub hl [0, 1, 2, 3] rfl)
  exact key_n_4548 (((4 - (0 : Int32).toInt).toNat) + 1) 0 0 _ _ _  ⟨(om_b1de7dbe kc_0), (om_bebe011a kc_0)⟩ ⟨om_1cb5f934, (om_59234406 kc_0)⟩ (om_1fd76bdc ix_p0 kc_0) (by first | (have q0 := kc_0; have q1 := kc_1; omega) | decide | assumption | exact rfl) (Nat.lt_add_one _) hP hD hS hl
set_option maxHeartbeats 4000000 in
set_option maxRecDepth 100000 in
theorem tX7_weightOf_x (l : Launch) (dC : Nat → ClassId) (dI : Nat → Nat → Nat) (sz : Nat) (oM : Nat) (iM_thrown : Int32) (rM_tape : Nat) (iM_taped : Int32) (iM_size : Int32) (iM_at : Int32) (iM_end : Int32) (iM_token : Int32) (iM_whole : Int32) (iM_nameSize : Int32) (iM_fault : Int32) (iM_place : Int32) (iM_trouble : Int32) (rM_letters : Nat) (iM_failed : Int32) (iM_hasCourt : Int32) (rM_r : Nat) (fM_r : Nat → Int32) (kM_r : ClassId) (rM_fresh : Nat) (rM_told : Nat) (fM_told : Nat → Int32) (kM_told : ClassId) (rM_read : Nat) (rM_st : Nat) (rM_undone : Nat) (rM_kept : Nat) (iM_undos : Int32) (iM_images : Int32) (rM_fresher : Nat) (iM_fresherSize : Int32) (iM_scale : Int32) (iM_night : Int32) (rM_heardRow : Nat) (rM_cutRow : Nat) (iM_breaths : Int32) (iM_cutMany : Int32) (iM_allBreaths : Int32) (rM_trial : Nat) (rM_words : Nat) (iM_fewestBreaths : Int32) (iM_orderMany : Int32) (iM_orderSum : Int32) (iM_leastOrder : Int32) (rM_often : Nat) (iM_setMany : Int32) (iM_someOf : Int32) (iM_allOf : Int32) (iM_allWeight : Int64) (iM_enoughWeight : Int64) (iM_worthSum : Int64) (iM_firstRest : Int32) (iM_leastDrawn : Int32) (p0 : Int32) (p1 : Int32) (b_iM_taped : 0 ≤ iM_taped.toInt ∧ iM_taped.toInt ≤ 900) (b_iM_size : 0 ≤ iM_size.toInt ∧ iM_size.toInt ≤ 900) (b_iM_end : 0 ≤ iM_end.toInt ∧ iM_end.toInt ≤ 900) (b_iM_failed : 0 ≤ iM_failed.toInt ∧ iM_failed.toInt ≤ 1) (b_iM_hasCourt : 0 ≤ iM_hasCourt.toInt ∧ iM_hasCourt.toInt ≤ 1) (b_iM_undos : 0 ≤ iM_undos.toInt ∧ iM_undos.toInt ≤ 16) (b_iM_images : 0 ≤ iM_images.toInt ∧ iM_images.toInt ≤ 3) (b_iM_scale : 1 ≤ iM_scale.toInt ∧ iM_scale.toInt ≤ 1296) (b_iM_breaths : 0 ≤ iM_breaths.toInt ∧ iM_breaths.toInt ≤ 399) (b_iM_cutMany : 0 ≤ iM_cutMany.toInt ∧ iM_cutMany.toInt ≤ 399) (r_R : ROk fM_r) (r_C : iM_hasCourt.toInt ≤ 0 ∨ (1 ≤ (fM_r 1).toInt ∧ 0 ≤ (fM_r 6).toInt ∧ (fM_r 6).toInt < (fM_r 1).toInt)) (r_told : RowOk fM_r fM_told) (hk0 : 0 ≤ p0.toInt ∧ p0.toInt < (fM_r 1).toInt) : Met l yX7_weightOf (Cond.code yX7_weightOf cX7_weightOf 4 (some .int) :: wG) ({ frames := 0, cells := 0, slots := 0, locals := 0 }) (va_Pc [.ref oM, .int p0, .int p1] (Pw dC dI sz [(oc7 oM iM_thrown rM_tape iM_taped iM_size iM_at iM_end iM_token iM_whole iM_nameSize iM_fault iM_place iM_trouble rM_letters iM_failed iM_hasCourt rM_r rM_fresh rM_told rM_read rM_st rM_undone rM_kept iM_undos iM_images rM_fresher iM_fresherSize iM_scale iM_night rM_heardRow rM_cutRow iM_breaths iM_cutMany iM_allBreaths rM_trial rM_words iM_fewestBreaths iM_orderMany iM_orderSum iM_leastOrder rM_often iM_setMany iM_someOf iM_allOf iM_allWeight iM_enoughWeight iM_worthSum iM_firstRest iM_leastDrawn), (arI rM_r kM_r 287 fM_r), (arI rM_told kM_told 90 fM_told)] [(kM_r, .int), (kM_told, .int)])) (va_Qi (fun (r : Int32) (_ : Nat) => True ∧ ((0 ≤ r.toInt ∧ r.toInt ≤ 9) ∧ r = wOf fM_r fM_told p0.toNatClampNeg p1 (fM_r (27 + p0.toNatClampNeg)).toInt.toNat 0)) (fun (_ : Nat) (t : State) => Bw dC dI (va_A [(oc7 oM iM_thrown rM_tape iM_taped iM_size iM_at iM_end iM_token iM_whole iM_nameSize iM_fault iM_place iM_trouble rM_letters iM_failed iM_hasCourt rM_r rM_fresh rM_told rM_read rM_st rM_undone rM_kept iM_undos iM_images rM_fresher iM_fresherSize iM_scale iM_night rM_heardRow rM_cutRow iM_breaths iM_cutMany iM_allBreaths rM_trial rM_words iM_fewestBreaths iM_orderMany iM_orderSum iM_leastOrder rM_often iM_setMany iM_someOf iM_allOf iM_allWeight iM_enoughWeight iM_worthSum iM_firstRest iM_leastDrawn), (arI rM_r kM_r 287 fM_r), (arI rM_told kM_told 90 fM_told)] sz) [(oc7 oM iM_thrown rM_tape iM_taped iM_size iM_at iM_end iM_token iM_whole iM_nameSize iM_fault iM_place iM_trouble rM_letters iM_failed iM_hasCourt rM_r rM_fresh rM_told rM_read rM_st rM_undone rM_kept iM_undos iM_images rM_fresher iM_fresherSize iM_scale iM_night rM_heardRow rM_cutRow iM_breaths iM_cutMany iM_allBreaths rM_trial rM_words iM_fewestBreaths iM_orderMany iM_orderSum iM_leastOrder rM_often iM_setMany iM_someOf iM_allOf iM_allWeight iM_enoughWeight iM_worthSum iM_firstRest iM_leastDrawn), (arI rM_r kM_r 287 fM_r), (arI rM_told kM_told 90 fM_told)] [(kM_r, .int), (kM_told, .int)] t) (va_A [(oc7 oM iM_thrown rM_tape iM_taped iM_size iM_at iM_end iM_token iM_whole iM_nameSize iM_fault iM_place iM_trouble rM_letters iM_failed iM_hasCourt rM_r rM_fresh rM_told rM_read rM_st rM_undone rM_kept iM_undos iM_images rM_fresher iM_fresherSize iM_scale iM_night rM_heardRow rM_cutRow iM_breaths iM_cutMany iM_allBreaths rM_trial rM_words iM_fewestBreaths iM_orderMany iM_orderSum iM_leastOrder rM_often iM_setMany iM_someOf iM_allOf iM_allWeight iM_enoughWeight iM_worthSum iM_firstRest iM_leastDrawn), (arI rM_r kM_r 287 fM_r), (arI rM_told kM_told 90 fM_told)] sz)) 0 0 (va_A [(oc7 oM iM_thrown rM_tape iM_taped iM_size iM_at iM_end iM_token iM_whole iM_nameSize iM_fault iM_place iM_trouble rM_letters iM_failed iM_hasCourt rM_r rM_fresh rM_told rM_read rM_st rM_undone rM_kept iM_undos iM_images rM_fresher iM_fresherSize iM_scale iM_night rM_heardRow rM_cutRow iM_breaths iM_cutMany iM_allBreaths rM_trial rM_words iM_fewestBreaths iM_orderMany iM_orderSum iM_leastOrder rM_often iM_setMany iM_someOf iM_allOf iM_allWeight iM_enoughWeight iM_worthSum iM_firstRest iM_leastDrawn), (arI rM_r kM_r 287 fM_r), (arI rM_told kM_told 90 fM_told)] sz) := by
  refine Met.ofW (cc := cX7_weightOf) (maxL := 4) (ret := (some .int)) pnX7 rfl ?_
  intro p e s m args below meth c s₁ B hml hv
  obtain ⟨rfl, hsz, hP, hK, hD0, hE⟩ := hv
  have hx := B.exec
  have hb := B.bytes
  have hr := B.returns
  have hts : ∀ w ∈ wG, w.before ([.ref oM, .int p0, .int p1] : List Value).toArray s = true := fun w h => atoms_spec (ws := Cond.code yX7_weightOf cX7_weightOf 4 (some .int) :: wG) B.pre w (List.mem_cons_of_mem _ h)
  have hown : s.vm.findClass RX7 = some m.cls := own_of B.named rfl
  have hlocks := B.notSynchronized
  subst hsz
  have hD := hD0.self (sz := s.heap.size)
  generalize hAe : va_A [(oc7 oM iM_thrown rM_tape iM_taped iM_size iM_at iM_end iM_token iM_whole iM_nameSize iM_fault iM_place iM_trouble rM_letters iM_failed iM_hasCourt rM_r rM_fresh rM_told rM_read rM_st rM_undone rM_kept iM_undos iM_images rM_fresher iM_fresherSize iM_scale iM_night rM_heardRow rM_cutRow iM_breaths iM_cutMany iM_allBreaths rM_trial rM_words iM_fewestBreaths iM_orderMany iM_orderSum iM_leastOrder rM_often iM_setMany iM_someOf iM_allOf iM_allWeight iM_enoughWeight iM_worthSum iM_firstRest iM_leastDrawn), (arI rM_r kM_r 287 fM_r), (arI rM_told kM_told 90 fM_told)] s.heap.size = A at hD hE ⊢
  have hA : ∀ q : Nat, s.heap.size ≤ q → A q := fun q h => by rw [← hAe]; exact Or.inr h
  have hS : va_S A s.heap s.heap [] := va_S.rf
  have hl := lv_entry ([.ref oM, .int p0, .int p1]) (n := 4) (Nat.le_of_ble_eq_true rfl)
  rw [lg_entry_eq]
  generalize (lg_sl ([.ref oM, .int p0, .int p1]) ++ List.replicate (4 - (lg_sl ([.ref oM, .int p0, .int p1])).length) Slot.unset).toArray = ls at hl ⊢
  have hl : lv_has ls 4 [(0, .ref oM), (1, .int p0), (2, .int p1)] := hl
  have rg_p0 := fb_rng p0
  have rg_p1 := fb_rng p1
  have s_slips := r_R.slips
  have s_nodes := r_R.nodes
  have s_uns := r_R.uns
  have q_p0 := ti_cl (x := p0) rfl (om_83bd56b0 hk0.1)
  have mn_p0 := r_R.many (27 + p0.toNatClampNeg) (by omega) (by omega)
  have kn_p0 := r_R.kind (9 + p0.toNatClampNeg) (by omega) (by omega)
  have in_p0 := r_R.inner p0.toNatClampNeg (by omega)
  refine lv_iconst (v := 0) hx hb dX7_weightOf_0 (by decide) ?_
  refine lv_istore_n (lv' := [(3, .int 0), (0, .ref oM), (1, .int p0), (2, .int p1)]) hx hb dX7_weightOf_1 rfl hl (by decide) rfl (fun ls hl => ?_)
  have hl := lv_sub hl (l' := [(3, .int 0), (0, .ref oM), (1, .int p0), (2, .int p1)]) [0, 1, 2, 3] rfl
  have key_n_4573 : ∀ (n_4573 : Nat) (z_4572 : Int32) (H : Heap) (locs : List Loc) (ls : Array Slot), (0 ≤ z_4572.toInt ∧ z_4572.toInt ≤ 4) → (wOf fM_r fM_told p0.toNatClampNeg p1 (fM_r (27 + p0.toNatClampNeg)).toInt.toNat 0 = wOf fM_r fM_told p0.toNatClampNeg p1 ((fM_r (27 + p0.toNatClampNeg)).toInt.toNat - z_4572.toNatClampNeg) z_4572.toNatClampNeg) → (2147483647 - z_4572.toInt).toNat < n_4573 → va_P (dC, dI) vwCl [(oc7 oM iM_thrown rM_tape iM_taped iM_size iM_at iM_end iM_token iM_whole iM_nameSize iM_fault iM_place iM_trouble rM_letters iM_failed iM_hasCourt rM_r rM_fresh rM_told rM_read rM_st rM_undone rM_kept iM_undos iM_images rM_fresher iM_fresherSize iM_scale iM_night rM_heardRow rM_cutRow iM_breaths iM_cutMany iM_allBreaths rM_trial rM_words iM_fewestBreaths iM_orderMany iM_orderSum iM_leastOrder rM_often iM_setMany iM_someOf iM_allOf iM_allWeight iM_enoughWeight iM_worthSum iM_firstRest iM_leastDrawn), (arI rM_r kM_r 287 fM_r), (arI rM_told kM_told 90 fM_told)] H → va_D A [(oc7 oM iM_thrown rM_tape iM_taped iM_size iM_at iM_end iM_token iM_whole iM_nameSize iM_fault iM_place iM_trouble rM_letters iM_failed iM_hasCourt rM_r rM_fresh rM_told rM_read rM_st rM_undone rM_kept iM_undos iM_images rM_fresher iM_fresherSize iM_scale iM_night rM_heardRow rM_cutRow iM_breaths iM_cutMany iM_allBreaths rM_trial rM_words iM_fewestBreaths iM_orderMany iM_orderSum iM_leastOrder rM_often iM_setMany iM_someOf iM_allOf iM_allWeight iM_enoughWeight iM_worthSum iM_firstRest iM_leastDrawn), (arI rM_r kM_r 287 fM_r), (arI rM_told kM_told 90 fM_told)] → va_S A s.heap H locs → lv_has ls 4 [(3, .int z_4572), (0, .ref oM), (1, .int p0), (2, .int p1)] → W p l e (headSpec (Cond.code yX7_weightOf cX7_weightOf 4 (some .int) :: wG) ({ frames := 0, cells := 0, slots := 0, locals := 0 })).room s m ([.ref oM, .int p0, .int p1] : List Value).toArray below meth c H locs 0 0 (MQ below (va_Qi (fun (r : Int32) (_ : Nat) => True ∧ ((0 ≤ r.toInt ∧ r.toInt ≤ 9) ∧ r = wOf fM_r fM_told p0.toNatClampNeg p1 (fM_r (27 + p0.toNatClampNeg)).toInt.toNat 0)) (fun (_ : Nat) (t : State) => Bw dC dI A [(oc7 oM iM_thrown rM_tape iM_taped iM_size iM_at iM_end iM_token iM_whole iM_nameSize iM_fault iM_place iM_trouble rM_letters iM_failed iM_hasCourt rM_r rM_fresh rM_told rM_read rM_st rM_undone rM_kept iM_undos iM_images rM_fresher iM_fresherSize iM_scale iM_night rM_heardRow rM_cutRow iM_breaths iM_cutMany iM_allBreaths rM_trial rM_words iM_fewestBreaths iM_orderMany iM_orderSum iM_leastOrder rM_often iM_setMany iM_someOf iM_allOf iM_allWeight iM_enoughWeight iM_worthSum iM_firstRest iM_leastDrawn), (arI rM_r kM_r 287 fM_r), (arI rM_told kM_told 90 fM_told)] [(kM_r, .int), (kM_told, .int)] t) A) ([.ref oM, .int p0, .int p1] : List Value).toArray s 0 0 A) (F0 m 2 ls []) := by
    intro n_4573
    induction n_4573 with
    | zero => intro z_4572 H locs ls hi0_n_4573 hi1_n_4573 hm; exact absurd hm (Nat.not_lt_zero _)
    | succ n_4573 ih_n_4573 =>
      intro z_4572 H locs ls hi0_n_4573 hi1_n_4573 hm_n_4573 hP hD hS hl
      have rg_z_4572 := fb_rng z_4572
      refine lv_iload_n hx hb dX7_weightOf_2 rfl (lv_at hl 0 rfl) ?_
      refine lv_aload_n hx hb dX7_weightOf_3 rfl (lv_at hl 1 rfl) ?_
      refine va_get (D := (dC, dI)) (ci := 7) (v := .ref rM_r) (C := RX7) (T := TX7) (N := 48) hx hb hts inX7 hown hK hP 0 rfl rfl 15 (by decide) (hts _ wd_155) (fun _ h9 => h9) rfl dX7_weightOf_4 ?_
      refine lv_bipush (v := 27) hx hb dX7_weightOf_7 (by decide) ?_
      refine lv_iload_n hx hb dX7_weightOf_9 rfl (lv_at hl 2 rfl) ?_
      refine lv_iadd hx hb dX7_weightOf_10 ?_
      refine lv_topi (fun x_4574 ex_4574 => ?_)
      have vx_4574 : x_4574.toInt = p0.toInt + 27 := om_6c48219a (ti_add ex_4574 kc_27 rfl (om_edd3f7cf hk0.1) (om_cf6669ce hk0.2 s_nodes.2))
      refine va_iald hx hb hK hP 1 0 rfl rfl (ti_in vx_4574 (om_b4b48b7f hk0.1) (om_420abfc6 hk0.2 s_nodes.2)) dX7_weightOf_11 ?_
      refine lv_topi (fun x_4575 ex_4575 => ?_)
      have rg_x_4575 := fb_rng x_4575
      have kx_4575 : (fM_r x_4574.toNatClampNeg).toInt = x_4575.toInt := by rw [ex_4575]
      have cx_4575 : (fM_r (27 + p0.toNatClampNeg)).toInt = x_4575.toInt := by rw [show 27 + p0.toNatClampNeg = x_4574.toNatClampNeg from by have q9 := ti_cl (x := x_4574) vx_4574 (om_b4b48b7f hk0.1); have q_p0 := ti_cl (x := p0) rfl (om_83bd56b0 hk0.1); omega]; exact kx_4575
      have sx_4575 := r_R.many x_4574.toNatClampNeg (by have q9 := ti_cl (x := x_4574) vx_4574 (om_b4b48b7f hk0.1); omega) (by have q9 := ti_cl (x := x_4574) vx_4574 (om_b4b48b7f hk0.1); omega)
      refine lv_icmp_ge (tgt := 49) hx hb dX7_weightOf_12 (by decide) (fun c_4576 => ?_) (fun c_4576 => ?_)
      · skip
        have gc_4576 := ti_le c_4576 rfl rfl
        refine lv_iconst (v := 0) hx hb dX7_weightOf_49 (by decide) ?_
        exact wq_i hx hb hr 0 ⟨trivial, ⟨by decide, wOf_out hi1_n_4573 (by have q2 := ti_cl (x := z_4572) rfl (by omega); omega)⟩⟩ (fun t ht hW => Bw.to hP hD hK ht hW) hS dX7_weightOf_50 hlocks
      · skip
        have gc_4576 := ti_nle c_4576 rfl rfl
        refine lv_aload_n hx hb dX7_weightOf_15 rfl (lv_at hl 1 rfl) ?_
        refine va_get (D := (dC, dI)) (ci := 7) (v := .ref rM_told) (C := RX7) (T := TX7) (N := 48) hx hb hts inX7 hown hK hP 0 rfl rfl 17 (by decide) (hts _ wd_157) (fun _ h9 => h9) rfl dX7_weightOf_16 ?_
        refine lv_iconst (v := 4) hx hb dX7_weightOf_19 (by decide) ?_
        refine lv_iload_n hx hb dX7_weightOf_20 rfl (lv_at hl 2 rfl) ?_
        refine lv_imul hx hb dX7_weightOf_21 ?_
        refine lv_topi (fun x_4577 ex_4577 => ?_)
        have vx_4577 : x_4577.toInt = 4 * p0.toInt := ti_mul ex_4577 kc_4 rfl (om_56b74365 hk0.1) (om_eac0354e hk0.2 s_nodes.2)
        refine lv_iload_n hx hb dX7_weightOf_22 rfl (lv_at hl 0 rfl) ?_
        refine lv_iadd hx hb dX7_weightOf_23 ?_
        refine lv_topi (fun x_4578 ex_4578 => ?_)
        have vx_4578 : x_4578.toInt = 4 * p0.toInt + z_4572.toInt := om_5d0caf0f (ti_add ex_4578 vx_4577 rfl (om_056a216f hk0.1 hi0_n_4573.1) (om_cddd17b5 hk0.2 s_nodes.2 hi0_n_4573.2))
        refine va_iald hx hb hK hP 2 1 rfl rfl (ti_in vx_4578 (om_fc2812d4 hk0.1 hi0_n_4573.1) (om_50b52c69 hk0.2 s_nodes.2 hi0_n_4573.2)) dX7_weightOf_24 ?_
        refine lv_topi (fun x_4579 ex_4579 => ?_)
        have rg_x_4579 := fb_rng x_4579
        have kx_4579 : (fM_told x_4578.toNatClampNeg).toInt = x_4579.toInt := by rw [ex_4579]
        have cx_4579 : (fM_told (4 * p0.toNatClampNeg + z_4572.toNatClampNeg)).toInt = x_4579.toInt := by rw [show 4 * p0.toNatClampNeg + z_4572.toNatClampNeg = x_4578.toNatClampNeg from by have q9 := ti_cl (x := x_4578) vx_4578 (om_fc2812d4 hk0.1 hi0_n_4573.1); have q_p0 := ti_cl (x := p0) rfl (om_83bd56b0 hk0.1); have q_z_4572 := ti_cl (x := z_4572) rfl (om_83bd56b0 hi0_n_4573.1); omega]; exact kx_4579
        have wx_4579 := r_told.lt p0.toNatClampNeg (z_4572.toNatClampNeg) (by have q_1 := ti_cl (x := p0) rfl (om_83bd56b0 hk0.1); have q_2 := ti_cl (x := z_4572) rfl (om_83bd56b0 hi0_n_4573.1); omega) (by have q_1 := ti_cl (x := p0) rfl (om_83bd56b0 hk0.1); have q_2 := ti_cl (x := z_4572) rfl (om_83bd56b0 hi0_n_4573.1); omega)
        have wx_4579 : 0 ≤ x_4579.toInt ∧ x_4579.toInt < p0.toInt := by have q_1 := ti_cl (x := p0) rfl (om_83bd56b0 hk0.1); have q_2 := ti_cl (x := z_4572) rfl (om_83bd56b0 hi0_n_4573.1); have q_3 := cx_4579; rw [show 4 * p0.toNatClampNeg + (z_4572.toNatClampNeg) = 4 * p0.toNatClampNeg + z_4572.toNatClampNeg from by omega] at wx_4579; omega
        refine lv_iload_n hx hb dX7_weightOf_25 rfl (lv_at hl 3 rfl) ?_
        refine lv_icmp_ne (tgt := 43) hx hb dX7_weightOf_26 (by decide) (fun c_4580 => ?_) (fun c_4580 => ?_)
        · skip
          have gc_4580 := ti_ne c_4580 rfl rfl
          obtain ⟨x_4581, ex_4581⟩ : ∃ z : Int32, z = z_4572 + Int32.ofInt 1 := ⟨_, rfl⟩
          have vx_4581 : x_4581.toInt = z_4572.toInt + 1 := ti_add (y := 1) ex_4581 rfl kc_1 (om_4e4fce7e hi0_n_4573.1) (om_bae2951a hi0_n_4573.2)
          refine lv_iinc (v := x_4581) (lv' := [(3, .int x_4581), (0, .ref oM), (1, .int p0), (2, .int p1)]) hx hb dX7_weightOf_43 hl (k := 0) rfl ex_4581.symm (by decide) rfl (fun ls hl => ?_)
          refine lv_goto (tgt := 2) hx hb dX7_weightOf_46 (by decide) ?_
          exact ih_n_4573 x_4581 _ _ _  (by first | (exact ⟨by omega, by omega⟩) | omega | decide | assumption) (wOf_next (z := x_4579) hi1_n_4573 (by have q := cx_4579; rw [show 4 * p0.toNatClampNeg + z_4572.toNatClampNeg = 4 * p0.toNatClampNeg + z_4572.toNatClampNeg from by omega]; exact q) (by omega) (by have q2 := ti_cl (x := z_4572) rfl (om_83bd56b0 hi0_n_4573.1); omega) (by have q1 := ti_cl (x := x_4581) vx_4581 (om_9548a8fd hi0_n_4573.1); have q2 := ti_cl (x := z_4572) rfl (om_83bd56b0 hi0_n_4573.1); omega)) (ms_lt hm_n_4573 (om_b9393183 vx_4581) (om_41b2db40 hi0_n_4573.2)) hP hD hS (lv_sub hl [0, 1, 2, 3] rfl)
        · skip
          have gc_4580 := ti_eq c_4580 rfl rfl
          refine lv_aload_n hx hb dX7_weightOf_29 rfl (lv_at hl 1 rfl) ?_
          refine va_get (D := (dC, dI)) (ci := 7) (v := .ref rM_r) (C := RX7) (T := TX7) (N := 48) hx hb hts inX7 hown hK hP 0 rfl rfl 15 (by decide) (hts _ wd_155) (fun _ h9 => h9) rfl dX7_weightOf_30 ?_
          refine lv_bipush (v := 45) hx hb dX7_weightOf_33 (by decide) ?_
          refine lv_iconst (v := 4) hx hb dX7_weightOf_35 (by decide) ?_
          refine lv_iload_n hx hb dX7_weightOf_36 rfl (lv_at hl 2 rfl) ?_
          refine lv_imul hx hb dX7_weightOf_37 ?_
          refine lv_topi (fun x_4582 ex_4582 => ?_)
          have vx_4582 : x_4582.toInt = 4 * p0.toInt := ti_mul ex_4582 kc_4 rfl (om_56b74365 hk0.1) (om_eac0354e hk0.2 s_nodes.2)
          refine lv_iadd hx hb dX7_weightOf_38 ?_
          refine lv_topi (fun x_4583 ex_4583 => ?_)
          have vx_4583 : x_4583.toInt = 4 * p0.toInt + 45 := om_702bf7ac (ti_add ex_4583 kc_45 vx_4582 (om_500c1a9b hk0.1) (om_dd0f51e3 hk0.2 s_nodes.2))
          refine lv_iload_n hx hb dX7_weightOf_39 rfl (lv_at hl 0 rfl) ?_
          refine lv_iadd hx hb dX7_weightOf_40 ?_
          refine lv_topi (fun x_4584 ex_4584 => ?_)
          have vx_4584 : x_4584.toInt = 4 * p0.toInt + z_4572.toInt + 45 := om_0ab12ad6 (ti_add ex_4584 vx_4583 rfl (om_97113e8e hk0.1 hi0_n_4573.1) (om_80d40543 hk0.2 s_nodes.2 hi0_n_4573.2))
          refine va_iald hx hb hK hP 1 0 rfl rfl (ti_in vx_4584 (om_a0b7f4d9 hk0.1 hi0_n_4573.1) (om_34e445bb hk0.2 s_nodes.2 hi0_n_4573.2)) dX7_weightOf_41 ?_
          refine lv_topi (fun x_4585 ex_4585 => ?_)
          have rg_x_4585 := fb_rng x_4585
          have kx_4585 : (fM_r x_4584.toNatClampNeg).toInt = x_4585.toInt := by rw [ex_4585]
          have cx_4585 : (fM_r (45 + 4 * p0.toNatClampNeg + z_4572.toNatClampNeg)).toInt = x_4585.toInt := by rw [show 45 + 4 * p0.toNatClampNeg + z_4572.toNatClampNeg = x_4584.toNatClampNeg from by have q9 := ti_cl (x := x_4584) vx_4584 (om_a0b7f4d9 hk0.1 hi0_n_4573.1); have q_p0 := ti_cl (x := p0) rfl (om_83bd56b0 hk0.1); have q_z_4572 := ti_cl (x := z_4572) rfl (om_83bd56b0 hi0_n_4573.1); omega]; exact kx_4585
          have sx_4585 := r_R.wts x_4584.toNatClampNeg (by have q9 := ti_cl (x := x_4584) vx_4584 (om_a0b7f4d9 hk0.1 hi0_n_4573.1); omega) (by have q9 := ti_cl (x := x_4584) vx_4584 (om_a0b7f4d9 hk0.1 hi0_n_4573.1); omega)
          exact wq_i hx hb hr 0 ⟨trivial, ⟨by omega, wOf_hit (z := x_4579) hi1_n_4573 (by have q := cx_4579; rw [show 4 * p0.toNatClampNeg + z_4572.toNatClampNeg = 4 * p0.toNatClampNeg + z_4572.toNatClampNeg from by omega]; exact q) (by omega) (by have q2 := ti_cl (x := z_4572) rfl (by omega); omega) (by have q := cx_4585; rw [show 45 + 4 * p0.toNatClampNeg + z_4572.toNatClampNeg = 45 + 4 * p0.toNatClampNeg + z_4572.toNatClampNeg from by omega]; exact q)⟩⟩ (fun t ht hW => Bw.to hP hD hK ht hW) hS dX7_weightOf_42 hlocks
  exact key_n_4573 (((2147483647 - (0 : Int32).toInt).toNat) + 1) 0 _ _ _  ⟨(om_b1de7dbe kc_0), (om_bebe011a kc_0)⟩ (by first | (have q0 := kc_0; have q1 := kc_1; omega) | decide | assumption | exact rfl) (Nat.lt_add_one _) hP hD hS hl
set_option maxHeartbeats 4000000 in
set_option maxRecDepth 100000 in
theorem tX7_worthAt_x_n (l : Launch) (dC : Nat → ClassId) (dI : Nat → Nat → Nat) : ∀ (n9 : Nat) (sz : Nat) (oM : Nat) (iM_thrown : Int32) (rM_tape : Nat) (iM_taped : Int32) (iM_size : Int32) (iM_at : Int32) (iM_end : Int32) (iM_token : Int32) (iM_whole : Int32) (iM_nameSize : Int32) (iM_fault : Int32) (iM_place : Int32) (iM_trouble : Int32) (rM_letters : Nat) (iM_failed : Int32) (iM_hasCourt : Int32) (rM_r : Nat) (fM_r : Nat → Int32) (kM_r : ClassId) (rM_fresh : Nat) (rM_told : Nat) (fM_told : Nat → Int32) (kM_told : ClassId) (rM_read : Nat) (rM_st : Nat) (rM_undone : Nat) (rM_kept : Nat) (iM_undos : Int32) (iM_images : Int32) (rM_fresher : Nat) (iM_fresherSize : Int32) (iM_scale : Int32) (iM_night : Int32) (rM_heardRow : Nat) (rM_cutRow : Nat) (iM_breaths : Int32) (iM_cutMany : Int32) (iM_allBreaths : Int32) (rM_trial : Nat) (rM_words : Nat) (iM_fewestBreaths : Int32) (iM_orderMany : Int32) (iM_orderSum : Int32) (iM_leastOrder : Int32) (rM_often : Nat) (iM_setMany : Int32) (iM_someOf : Int32) (iM_allOf : Int32) (iM_allWeight : Int64) (iM_enoughWeight : Int64) (iM_worthSum : Int64) (iM_firstRest : Int32) (iM_leastDrawn : Int32) (rQ : Nat) (fQ : Nat → Int32) (kQ : ClassId) (p0 : Int32) (p1 : Int32) (b_iM_taped : 0 ≤ iM_taped.toInt ∧ iM_taped.toInt ≤ 900) (b_iM_size : 0 ≤ iM_size.toInt ∧ iM_size.toInt ≤ 900) (b_iM_end : 0 ≤ iM_end.toInt ∧ iM_end.toInt ≤ 900) (b_iM_failed : 0 ≤ iM_failed.toInt ∧ iM_failed.toInt ≤ 1) (b_iM_hasCourt : 0 ≤ iM_hasCourt.toInt ∧ iM_hasCourt.toInt ≤ 1) (b_iM_undos : 0 ≤ iM_undos.toInt ∧ iM_undos.toInt ≤ 16) (b_iM_images : 0 ≤ iM_images.toInt ∧ iM_images.toInt ≤ 3) (b_iM_scale : 1 ≤ iM_scale.toInt ∧ iM_scale.toInt ≤ 1296) (b_iM_breaths : 0 ≤ iM_breaths.toInt ∧ iM_breaths.toInt ≤ 399) (b_iM_cutMany : 0 ≤ iM_cutMany.toInt ∧ iM_cutMany.toInt ≤ 399) (r_R : ROk fM_r) (r_C : iM_hasCourt.toInt ≤ 0 ∨ (1 ≤ (fM_r 1).toInt ∧ 0 ≤ (fM_r 6).toInt ∧ (fM_r 6).toInt < (fM_r 1).toInt)) (r_told : RowOk fM_r fM_told) (r_Q : RowOk fM_r fQ) (hk0 : 0 ≤ p0.toInt ∧ p0.toInt < (fM_r 1).toInt) (hnt : iM_night.toInt = -1) (hdp : 0 ≤ p1.toInt ∧ p1.toInt + p0.toInt ≤ 100) (hn9 : p0.toInt < (n9 : Int)), Met l yX7_worthAt (Cond.code yX7_worthAt cX7_worthAt 9 (some .int) :: wG) ({ frames := 1 + n9, cells := 0, slots := 0, locals := 10 + 28 * n9 }) (va_Pc [.ref oM, .ref rQ, .int p0, .int p1] (Pw dC dI sz [(oc7 oM iM_thrown rM_tape iM_taped iM_size iM_at iM_end iM_token iM_whole iM_nameSize iM_fault iM_place iM_trouble rM_letters iM_failed iM_hasCourt rM_r rM_fresh rM_told rM_read rM_st rM_undone rM_kept iM_undos iM_images rM_fresher iM_fresherSize iM_scale iM_night rM_heardRow rM_cutRow iM_breaths iM_cutMany iM_allBreaths rM_trial rM_words iM_fewestBreaths iM_orderMany iM_orderSum iM_leastOrder rM_often iM_setMany iM_someOf iM_allOf iM_allWeight iM_enoughWeight iM_worthSum iM_firstRest iM_leastDrawn), (arI rM_r kM_r 287 fM_r), (arI rM_told kM_told 90 fM_told), (arI rQ kQ 90 fQ)] [(kM_r, .int), (kM_told, .int), (kQ, .int)])) (va_Qi (fun (r : Int32) (_ : Nat) => True ∧ (r = rval fM_r fM_told fQ iM_scale n9 p0.toNatClampNeg)) (fun (_ : Nat) (t : State) => Bw dC dI (va_A [(oc7 oM iM_thrown rM_tape iM_taped iM_size iM_at iM_end iM_token iM_whole iM_nameSize iM_fault iM_place iM_trouble rM_letters iM_failed iM_hasCourt rM_r rM_fresh rM_told rM_read rM_st rM_undone rM_kept iM_undos iM_images rM_fresher iM_fresherSize iM_scale iM_night rM_heardRow rM_cutRow iM_breaths iM_cutMany iM_allBreaths rM_trial rM_words iM_fewestBreaths iM_orderMany iM_orderSum iM_leastOrder rM_often iM_setMany iM_someOf iM_allOf iM_allWeight iM_enoughWeight iM_worthSum iM_firstRest iM_leastDrawn), (arI rM_r kM_r 287 fM_r), (arI rM_told kM_told 90 fM_told), (arI rQ kQ 90 fQ)] sz) [(oc7 oM iM_thrown rM_tape iM_taped iM_size iM_at iM_end iM_token iM_whole iM_nameSize iM_fault iM_place iM_trouble rM_letters iM_failed iM_hasCourt rM_r rM_fresh rM_told rM_read rM_st rM_undone rM_kept iM_undos iM_images rM_fresher iM_fresherSize iM_scale iM_night rM_heardRow rM_cutRow iM_breaths iM_cutMany iM_allBreaths rM_trial rM_words iM_fewestBreaths iM_orderMany iM_orderSum iM_leastOrder rM_often iM_setMany iM_someOf iM_allOf iM_allWeight iM_enoughWeight iM_worthSum iM_firstRest iM_leastDrawn), (arI rM_r kM_r 287 fM_r), (arI rM_told kM_told 90 fM_told), (arI rQ kQ 90 fQ)] [(kM_r, .int), (kM_told, .int), (kQ, .int)] t) (va_A [(oc7 oM iM_thrown rM_tape iM_taped iM_size iM_at iM_end iM_token iM_whole iM_nameSize iM_fault iM_place iM_trouble rM_letters iM_failed iM_hasCourt rM_r rM_fresh rM_told rM_read rM_st rM_undone rM_kept iM_undos iM_images rM_fresher iM_fresherSize iM_scale iM_night rM_heardRow rM_cutRow iM_breaths iM_cutMany iM_allBreaths rM_trial rM_words iM_fewestBreaths iM_orderMany iM_orderSum iM_leastOrder rM_often iM_setMany iM_someOf iM_allOf iM_allWeight iM_enoughWeight iM_worthSum iM_firstRest iM_leastDrawn), (arI rM_r kM_r 287 fM_r), (arI rM_told kM_told 90 fM_told), (arI rQ kQ 90 fQ)] sz)) 0 0 (va_A [(oc7 oM iM_thrown rM_tape iM_taped iM_size iM_at iM_end iM_token iM_whole iM_nameSize iM_fault iM_place iM_trouble rM_letters iM_failed iM_hasCourt rM_r rM_fresh rM_told rM_read rM_st rM_undone rM_kept iM_undos iM_images rM_fresher iM_fresherSize iM_scale iM_night rM_heardRow rM_cutRow iM_breaths iM_cutMany iM_allBreaths rM_trial rM_words iM_fewestBreaths iM_orderMany iM_orderSum iM_leastOrder rM_often iM_setMany iM_someOf iM_allOf iM_allWeight iM_enoughWeight iM_worthSum iM_firstRest iM_leastDrawn), (arI rM_r kM_r 287 fM_r), (arI rM_told kM_told 90 fM_told), (arI rQ kQ 90 fQ)] sz) := by
  intro n9
  induction n9 with
  | zero => intro sz oM iM_thrown rM_tape iM_taped iM_size iM_at iM_end iM_token iM_whole iM_nameSize iM_fault iM_place iM_trouble rM_letters iM_failed iM_hasCourt rM_r fM_r kM_r rM_fresh rM_told fM_told kM_told rM_read rM_st rM_undone rM_kept iM_undos iM_images rM_fresher iM_fresherSize iM_scale iM_night rM_heardRow rM_cutRow iM_breaths iM_cutMany iM_allBreaths rM_trial rM_words iM_fewestBreaths iM_orderMany iM_orderSum iM_leastOrder rM_often iM_setMany iM_someOf iM_allOf iM_allWeight iM_enoughWeight iM_worthSum iM_firstRest iM_leastDrawn rQ fQ kQ p0 p1 b_iM_taped b_iM_size b_iM_end b_iM_failed b_iM_hasCourt b_iM_undos b_iM_images b_iM_scale b_iM_breaths b_iM_cutMany r_R r_C r_told r_Q hk0 hnt hdp hn9; exact absurd hn9 (by omega)
  | succ n9 ih9 =>
    intro sz oM iM_thrown rM_tape iM_taped iM_size iM_at iM_end iM_token iM_whole iM_nameSize iM_fault iM_place iM_trouble rM_letters iM_failed iM_hasCourt rM_r fM_r kM_r rM_fresh rM_told fM_told kM_told rM_read rM_st rM_undone rM_kept iM_undos iM_images rM_fresher iM_fresherSize iM_scale iM_night rM_heardRow rM_cutRow iM_breaths iM_cutMany iM_allBreaths rM_trial rM_words iM_fewestBreaths iM_orderMany iM_orderSum iM_leastOrder rM_often iM_setMany iM_someOf iM_allOf iM_allWeight iM_enoughWeight iM_worthSum iM_firstRest iM_leastDrawn rQ fQ kQ p0 p1 b_iM_taped b_iM_size b_iM_end b_iM_failed b_iM_hasCourt b_iM_undos b_iM_images b_iM_scale b_iM_breaths b_iM_cutMany r_R r_C r_told r_Q hk0 hnt hdp hn9
    refine Met.ofW (cc := cX7_worthAt) (maxL := 9) (ret := (some .int)) pnX7 rfl ?_
    intro p e s m args below meth c s₁ B hml hv
    obtain ⟨rfl, hsz, hP, hK, hD0, hE⟩ := hv
    have hx := B.exec
    have hb := B.bytes
    have hr := B.returns
    have hts : ∀ w ∈ wG, w.before ([.ref oM, .ref rQ, .int p0, .int p1] : List Value).toArray s = true := fun w h => atoms_spec (ws := Cond.code yX7_worthAt cX7_worthAt 9 (some .int) :: wG) B.pre w (List.mem_cons_of_mem _ h)
    have hown : s.vm.findClass RX7 = some m.cls := own_of B.named rfl
    have hlocks := B.notSynchronized
    subst hsz
    have hD := hD0.self (sz := s.heap.size)
    generalize hAe : va_A [(oc7 oM iM_thrown rM_tape iM_taped iM_size iM_at iM_end iM_token iM_whole iM_nameSize iM_fault iM_place iM_trouble rM_letters iM_failed iM_hasCourt rM_r rM_fresh rM_told rM_read rM_st rM_undone rM_kept iM_undos iM_images rM_fresher iM_fresherSize iM_scale iM_night rM_heardRow rM_cutRow iM_breaths iM_cutMany iM_allBreaths rM_trial rM_words iM_fewestBreaths iM_orderMany iM_orderSum iM_leastOrder rM_often iM_setMany iM_someOf iM_allOf iM_allWeight iM_enoughWeight iM_worthSum iM_firstRest iM_leastDrawn), (arI rM_r kM_r 287 fM_r), (arI rM_told kM_told 90 fM_told), (arI rQ kQ 90 fQ)] s.heap.size = A at hD hE ⊢
    have hA : ∀ q : Nat, s.heap.size ≤ q → A q := fun q h => by rw [← hAe]; exact Or.inr h
    have hS : va_S A s.heap s.heap [] := va_S.rf
    have hl := lv_entry ([.ref oM, .ref rQ, .int p0, .int p1]) (n := 9) (Nat.le_of_ble_eq_true rfl)
    rw [lg_entry_eq]
    generalize (lg_sl ([.ref oM, .ref rQ, .int p0, .int p1]) ++ List.replicate (9 - (lg_sl ([.ref oM, .ref rQ, .int p0, .int p1])).length) Slot.unset).toArray = ls at hl ⊢
    have hl : lv_has ls 9 [(0, .ref oM), (1, .ref rQ), (2, .int p0), (3, .int p1)] := hl
    have s_slips := r_R.slips
    have s_nodes := r_R.nodes
    have s_uns := r_R.uns
    have q_p0 := ti_cl (x := p0) rfl (om_83bd56b0 hk0.1)
    have mn_p0 := r_R.many (27 + p0.toNatClampNeg) (by omega) (by omega)
    have kn_p0 := r_R.kind (9 + p0.toNatClampNeg) (by omega) (by omega)
    have in_p0 := r_R.inner p0.toNatClampNeg (by omega)
    refine lv_aload_n hx hb dX7_worthAt_0 rfl (lv_at hl 0 rfl) ?_
    refine va_get (D := (dC, dI)) (ci := 7) (v := .ref rM_r) (C := RX7) (T := TX7) (N := 48) hx hb hts inX7 hown hK hP 0 rfl rfl 15 (by decide) (hts _ wd_155) (fun _ h9 => h9) rfl dX7_worthAt_1 ?_
    refine lv_bipush (v := 9) hx hb dX7_worthAt_4 (by decide) ?_
    refine lv_iload_n hx hb dX7_worthAt_6 rfl (lv_at hl 2 rfl) ?_
    refine lv_iadd hx hb dX7_worthAt_7 ?_
    refine lv_topi (fun x_4586 ex_4586 => ?_)
    have vx_4586 : x_4586.toInt = p0.toInt + 9 := om_296ce4dd (ti_add ex_4586 kc_9 rfl (om_090bbef4 hk0.1) (om_9ecc8862 hdp.1 hdp.2))
    refine va_iald hx hb hK hP 1 0 rfl rfl (ti_in vx_4586 (om_edbe2e4c hk0.1) (om_2606a7f9 hdp.1 hdp.2)) dX7_worthAt_8 ?_
    refine lv_topi (fun x_4587 ex_4587 => ?_)
    have kx_4587 : (fM_r x_4586.toNatClampNeg).toInt = x_4587.toInt := by rw [ex_4587]
    have cx_4587 : (fM_r (9 + p0.toNatClampNeg)).toInt = x_4587.toInt := by rw [show 9 + p0.toNatClampNeg = x_4586.toNatClampNeg from by have q9 := ti_cl (x := x_4586) vx_4586 (om_edbe2e4c hk0.1); have q_p0 := ti_cl (x := p0) rfl (om_83bd56b0 hk0.1); omega]; exact kx_4587
    have sx_4587 := r_R.kind x_4586.toNatClampNeg (by have q9 := ti_cl (x := x_4586) vx_4586 (om_edbe2e4c hk0.1); omega) (by have q9 := ti_cl (x := x_4586) vx_4586 (om_edbe2e4c hk0.1); omega)
    refine lv_istore (lv' := [(4, .int x_4587), (0, .ref oM), (1, .ref rQ), (2, .int p0), (3, .int p1)]) hx hb dX7_worthAt_9 hl (by decide) rfl (fun ls hl => ?_)
    refine lv_iload hx hb dX7_worthAt_11 (lv_at hl 0 rfl) ?_
    refine lv_if_ne (tgt := 28) hx hb dX7_worthAt_13 (by decide) (fun c_4588 => ?_) (fun c_4588 => ?_)
    · skip
      have gc_4588 := ti_ne c_4588 rfl kc_0
      refine lv_iload_n hx hb dX7_worthAt_28 rfl (lv_at hl 4 rfl) ?_
      refine lv_aload_n hx hb dX7_worthAt_29 rfl (lv_at hl 1 rfl) ?_
      refine va_get (D := (dC, dI)) (ci := 7) (v := .int iM_night) (C := RX7) (T := TX7) (N := 48) hx hb hts inX7 hown hK hP 0 rfl rfl 27 (by decide) (hts _ wd_164) (fun _ h9 => h9) rfl dX7_worthAt_30 ?_
      refine lv_icmp_ne (tgt := 44) hx hb dX7_worthAt_33 (by decide) (fun c_4589 => ?_) (fun c_4589 => ?_)
      · skip
        have gc_4589 := ti_ne c_4589 rfl rfl
        refine lv_iload hx hb dX7_worthAt_44 (lv_at hl 0 rfl) ?_
        refine lv_iconst (v := 2) hx hb dX7_worthAt_46 (by decide) ?_
        refine lv_icmp_ne (tgt := 55) hx hb dX7_worthAt_47 (by decide) (fun c_4590 => ?_) (fun c_4590 => ?_)
        · skip
          have gc_4590 := ti_ne c_4590 rfl kc_2
          refine lv_iload hx hb dX7_worthAt_55 (lv_at hl 0 rfl) ?_
          refine lv_iconst (v := 1) hx hb dX7_worthAt_57 (by decide) ?_
          refine lv_icmp_ne (tgt := 66) hx hb dX7_worthAt_58 (by decide) (fun c_4591 => ?_) (fun c_4591 => ?_)
          · skip
            have gc_4591 := ti_ne c_4591 rfl kc_1
            refine lv_iconst (v := 0) hx hb dX7_worthAt_66 (by decide) ?_
            refine lv_istore (lv' := [(5, .int 0), (4, .int x_4587), (0, .ref oM), (1, .ref rQ), (2, .int p0), (3, .int p1)]) hx hb dX7_worthAt_67 hl (by decide) rfl (fun ls hl => ?_)
            refine lv_iconst (v := 0) hx hb dX7_worthAt_69 (by decide) ?_
            refine lv_istore (lv' := [(6, .int 0), (5, .int 0), (4, .int x_4587), (0, .ref oM), (1, .ref rQ), (2, .int p0), (3, .int p1)]) hx hb dX7_worthAt_70 hl (by decide) rfl (fun ls hl => ?_)
            have hl := lv_sub hl (l' := [(6, .int 0), (5, .int 0), (4, .int x_4587), (0, .ref oM), (1, .ref rQ), (2, .int p0), (3, .int p1)]) [0, 1, 2, 3, 4, 5, 6] rfl
            have key_n_4594 : ∀ (n_4594 : Nat) (z_4592 : Int32) (z_4593 : Int32) (H : Heap) (locs : List Loc) (ls : Array Slot), (0 ≤ z_4592.toInt ∧ z_4592.toInt ≤ (fM_r (27 + p0.toNatClampNeg)).toInt) → (z_4593 = foldV (fM_r (9 + p0.toNatClampNeg)).toInt (startV (fM_r (9 + p0.toNatClampNeg)).toInt) (VF fM_r fM_told fQ iM_scale n9 p0.toNatClampNeg) (WF fM_r fM_told fQ p0.toNatClampNeg) z_4592.toNatClampNeg) → (4 - z_4592.toInt).toNat < n_4594 → va_P (dC, dI) vwCl [(oc7 oM iM_thrown rM_tape iM_taped iM_size iM_at iM_end iM_token iM_whole iM_nameSize iM_fault iM_place iM_trouble rM_letters iM_failed iM_hasCourt rM_r rM_fresh rM_told rM_read rM_st rM_undone rM_kept iM_undos iM_images rM_fresher iM_fresherSize iM_scale iM_night rM_heardRow rM_cutRow iM_breaths iM_cutMany iM_allBreaths rM_trial rM_words iM_fewestBreaths iM_orderMany iM_orderSum iM_leastOrder rM_often iM_setMany iM_someOf iM_allOf iM_allWeight iM_enoughWeight iM_worthSum iM_firstRest iM_leastDrawn), (arI rM_r kM_r 287 fM_r), (arI rM_told kM_told 90 fM_told), (arI rQ kQ 90 fQ)] H → va_D A [(oc7 oM iM_thrown rM_tape iM_taped iM_size iM_at iM_end iM_token iM_whole iM_nameSize iM_fault iM_place iM_trouble rM_letters iM_failed iM_hasCourt rM_r rM_fresh rM_told rM_read rM_st rM_undone rM_kept iM_undos iM_images rM_fresher iM_fresherSize iM_scale iM_night rM_heardRow rM_cutRow iM_breaths iM_cutMany iM_allBreaths rM_trial rM_words iM_fewestBreaths iM_orderMany iM_orderSum iM_leastOrder rM_often iM_setMany iM_someOf iM_allOf iM_allWeight iM_enoughWeight iM_worthSum iM_firstRest iM_leastDrawn), (arI rM_r kM_r 287 fM_r), (arI rM_told kM_told 90 fM_told), (arI rQ kQ 90 fQ)] → va_S A s.heap H locs → lv_has ls 9 [(6, .int z_4592), (5, .int z_4593), (4, .int x_4587), (0, .ref oM), (1, .ref rQ), (2, .int p0), (3, .int p1)] → W p l e (headSpec (Cond.code yX7_worthAt cX7_worthAt 9 (some .int) :: wG) ({ frames := 1 + (n9 + 1), cells := 0, slots := 0, locals := 10 + 28 * (n9 + 1) })).room s m ([.ref oM, .ref rQ, .int p0, .int p1] : List Value).toArray below meth c H locs 0 0 (MQ below (va_Qi (fun (r : Int32) (_ : Nat) => True ∧ (r = rval fM_r fM_told fQ iM_scale (n9 + 1) p0.toNatClampNeg)) (fun (_ : Nat) (t : State) => Bw dC dI A [(oc7 oM iM_thrown rM_tape iM_taped iM_size iM_at iM_end iM_token iM_whole iM_nameSize iM_fault iM_place iM_trouble rM_letters iM_failed iM_hasCourt rM_r rM_fresh rM_told rM_read rM_st rM_undone rM_kept iM_undos iM_images rM_fresher iM_fresherSize iM_scale iM_night rM_heardRow rM_cutRow iM_breaths iM_cutMany iM_allBreaths rM_trial rM_words iM_fewestBreaths iM_orderMany iM_orderSum iM_leastOrder rM_often iM_setMany iM_someOf iM_allOf iM_allWeight iM_enoughWeight iM_worthSum iM_firstRest iM_leastDrawn), (arI rM_r kM_r 287 fM_r), (arI rM_told kM_told 90 fM_told), (arI rQ kQ 90 fQ)] [(kM_r, .int), (kM_told, .int), (kQ, .int)] t) A) ([.ref oM, .ref rQ, .int p0, .int p1] : List Value).toArray s 0 0 A) (F0 m 72 ls []) := by
              intro n_4594
              induction n_4594 with
              | zero => intro z_4592 z_4593 H locs ls hi0_n_4594 hi1_n_4594 hm; exact absurd hm (Nat.not_lt_zero _)
              | succ n_4594 ih_n_4594 =>
                intro z_4592 z_4593 H locs ls hi0_n_4594 hi1_n_4594 hm_n_4594 hP hD hS hl
                refine lv_iload hx hb dX7_worthAt_72 (lv_at hl 0 rfl) ?_
                refine lv_aload_n hx hb dX7_worthAt_74 rfl (lv_at hl 3 rfl) ?_
                refine va_get (D := (dC, dI)) (ci := 7) (v := .ref rM_r) (C := RX7) (T := TX7) (N := 48) hx hb hts inX7 hown hK hP 0 rfl rfl 15 (by decide) (hts _ wd_155) (fun _ h9 => h9) rfl dX7_worthAt_75 ?_
                refine lv_bipush (v := 27) hx hb dX7_worthAt_78 (by decide) ?_
                refine lv_iload_n hx hb dX7_worthAt_80 rfl (lv_at hl 5 rfl) ?_
                refine lv_iadd hx hb dX7_worthAt_81 ?_
                refine lv_topi (fun x_4595 ex_4595 => ?_)
                have vx_4595 : x_4595.toInt = p0.toInt + 27 := om_6c48219a (ti_add ex_4595 kc_27 rfl (om_edd3f7cf hk0.1) (om_54ed7536 hdp.1 hdp.2))
                refine va_iald hx hb hK hP 1 0 rfl rfl (ti_in vx_4595 (om_b4b48b7f hk0.1) (om_d6e519bf hdp.1 hdp.2)) dX7_worthAt_82 ?_
                refine lv_topi (fun x_4596 ex_4596 => ?_)
                have kx_4596 : (fM_r x_4595.toNatClampNeg).toInt = x_4596.toInt := by rw [ex_4596]
                have cx_4596 : (fM_r (27 + p0.toNatClampNeg)).toInt = x_4596.toInt := by rw [show 27 + p0.toNatClampNeg = x_4595.toNatClampNeg from by have q9 := ti_cl (x := x_4595) vx_4595 (om_b4b48b7f hk0.1); have q_p0 := ti_cl (x := p0) rfl (om_83bd56b0 hk0.1); omega]; exact kx_4596
                have sx_4596 := r_R.many x_4595.toNatClampNeg (by have q9 := ti_cl (x := x_4595) vx_4595 (om_b4b48b7f hk0.1); omega) (by have q9 := ti_cl (x := x_4595) vx_4595 (om_b4b48b7f hk0.1); omega)
                refine lv_icmp_ge (tgt := 179) hx hb dX7_worthAt_83 (by decide) (fun c_4597 => ?_) (fun c_4597 => ?_)
                · skip
                  have gc_4597 := ti_le c_4597 rfl rfl
                  refine lv_iload hx hb dX7_worthAt_179 (lv_at hl 2 rfl) ?_
                  refine lv_iconst (v := 3) hx hb dX7_worthAt_181 (by decide) ?_
                  refine lv_icmp_ne (tgt := 196) hx hb dX7_worthAt_182 (by decide) (fun c_4598 => ?_) (fun c_4598 => ?_)
                  · skip
                    have gc_4598 := ti_ne c_4598 rfl kc_3
                    refine lv_iload hx hb dX7_worthAt_196 (lv_at hl 1 rfl) ?_
                    exact wq_i hx hb hr 0 ⟨trivial, (rval_fold (by omega) (by omega) hi1_n_4594 (by have q1 := ti_cl (x := z_4592) rfl (by omega); omega))⟩ (fun t ht hW => Bw.to hP hD hK ht hW) hS dX7_worthAt_198 hlocks
                  · skip
                    have gc_4598 := ti_eq c_4598 rfl kc_3
                    refine lv_iload hx hb dX7_worthAt_185 (lv_at hl 1 rfl) ?_
                    refine lv_aload_n hx hb dX7_worthAt_187 rfl (lv_at hl 3 rfl) ?_
                    refine lv_iload_n hx hb dX7_worthAt_188 rfl (lv_at hl 5 rfl) ?_
                    have hMs := ml_of hD [true, true, false, false] (wc := [(oc7 oM iM_thrown rM_tape iM_taped iM_size iM_at iM_end iM_token iM_whole iM_nameSize iM_fault iM_place iM_trouble rM_letters iM_failed iM_hasCourt rM_r rM_fresh rM_told rM_read rM_st rM_undone rM_kept iM_undos iM_images rM_fresher iM_fresherSize iM_scale iM_night rM_heardRow rM_cutRow iM_breaths iM_cutMany iM_allBreaths rM_trial rM_words iM_fewestBreaths iM_orderMany iM_orderSum iM_leastOrder rM_often iM_setMany iM_someOf iM_allOf iM_allWeight iM_enoughWeight iM_worthSum iM_firstRest iM_leastDrawn), (arI rM_r kM_r 287 fM_r)]) rfl
                    have hFc := va_freeM hD hS hA _ hMs
                    refine va_calli (va_runV (As := [.int p0]) (rest := [.int z_4593]) ⟨hx, hb, hml, hown, hts⟩ (tX7_weightsOf_x l dC dI _ oM iM_thrown rM_tape iM_taped iM_size iM_at iM_end iM_token iM_whole iM_nameSize iM_fault iM_place iM_trouble rM_letters iM_failed iM_hasCourt rM_r fM_r kM_r rM_fresh rM_told rM_read rM_st rM_undone rM_kept iM_undos iM_images rM_fresher iM_fresherSize iM_scale iM_night rM_heardRow rM_cutRow iM_breaths iM_cutMany iM_allBreaths rM_trial rM_words iM_fewestBreaths iM_orderMany iM_orderSum iM_leastOrder rM_often iM_setMany iM_someOf iM_allOf iM_allWeight iM_enoughWeight iM_worthSum iM_firstRest iM_leastDrawn p0 b_iM_taped b_iM_size b_iM_end b_iM_failed b_iM_hasCourt b_iM_undos b_iM_images b_iM_scale b_iM_breaths b_iM_cutMany (by assumption) (by assumption) ⟨(om_83bd56b0 hk0.1), (om_c6249b78 hk0.2)⟩ (om_9acf6818 kn_p0.2 cx_4587 gc_4598)) (cwV 1 hts (wd_V wd_506 wd_507 wd_508 wd_5 (wd_c wd_509)) rfl rfl rfl dv_yX7_weightsOf_1 ⟨(show (0) + 1 ≤ 1 + (n9 + 1) by omega), (show 8 + (4 + 11) + (0) ≤ 10 + 28 * (n9 + 1) by omega)⟩) ⟨Pw.fb, recvX7 hK hP (q0 := 0) rfl, fun U hU hW => Pw.to (hP.ms _ hMs) (hD.ms _ hMs) (hK.ms [true, false, false] rfl) hE hS hFc hU hW⟩ rfl rfl hl.1 rfl (lv_room (Nat.le_of_ble_eq_true rfl)) dX7_worthAt_189 ⟨Nat.le_of_ble_eq_true rfl, Nat.le_of_ble_eq_true rfl⟩) hS (fun q _ h => hFc q h) hFc (fun r u t H locs ht hvm hw hB hz1 hk1 hS => ?_)
                    obtain ⟨hP, hD⟩ := Bw.goN (ws' := [(oc7 oM iM_thrown rM_tape iM_taped iM_size iM_at iM_end iM_token iM_whole iM_nameSize iM_fault iM_place iM_trouble rM_letters iM_failed iM_hasCourt rM_r rM_fresh rM_told rM_read rM_st rM_undone rM_kept iM_undos iM_images rM_fresher iM_fresherSize iM_scale iM_night rM_heardRow rM_cutRow iM_breaths iM_cutMany iM_allBreaths rM_trial rM_words iM_fewestBreaths iM_orderMany iM_orderSum iM_leastOrder rM_often iM_setMany iM_someOf iM_allOf iM_allWeight iM_enoughWeight iM_worthSum iM_firstRest iM_leastDrawn), (arI rM_r kM_r 287 fM_r), (arI rM_told kM_told 90 fM_told), (arI rQ kQ 90 fQ)]) hB rfl ht hP hD _ hMs hk1 hFc rfl
                    clear hz1 hk1 hvm ht hB hMs
                    obtain ⟨x_4599, rfl⟩ : ∃ z, z = r := ⟨_, rfl⟩
                    have lx_4599 := hw.2
                    have ux_4599 := hw.2
                    refine lv_idiv hx hb dX7_worthAt_192 (ti_n0 rfl (by omega)) ?_
                    refine lv_topi (fun x_4600 ex_4600 => ?_)
                    refine lv_goto (tgt := 198) hx hb dX7_worthAt_193 (by decide) ?_
                    exact wq_i hx hb hr 0 ⟨trivial, (rval_ch (by omega) hi1_n_4594 (by have q1 := ti_cl (x := z_4592) rfl (by omega); omega) lx_4599.2 ex_4600)⟩ (fun t ht hW => Bw.to hP hD hK ht hW) hS dX7_worthAt_198 hlocks
                · skip
                  have gc_4597 := ti_nle c_4597 rfl rfl
                  refine lv_aload_n hx hb dX7_worthAt_86 rfl (lv_at hl 4 rfl) ?_
                  refine lv_iconst (v := 4) hx hb dX7_worthAt_87 (by decide) ?_
                  refine lv_iload_n hx hb dX7_worthAt_88 rfl (lv_at hl 5 rfl) ?_
                  refine lv_imul hx hb dX7_worthAt_89 ?_
                  refine lv_topi (fun x_4601 ex_4601 => ?_)
                  have vx_4601 : x_4601.toInt = 4 * p0.toInt := ti_mul ex_4601 kc_4 rfl (om_56b74365 hk0.1) (om_1e4644e1 hdp.1 hdp.2)
                  refine lv_iload hx hb dX7_worthAt_90 (lv_at hl 0 rfl) ?_
                  refine lv_iadd hx hb dX7_worthAt_92 ?_
                  refine lv_topi (fun x_4602 ex_4602 => ?_)
                  have vx_4602 : x_4602.toInt = 4 * p0.toInt + z_4592.toInt := om_5d0caf0f (ti_add ex_4602 vx_4601 rfl (om_056a216f hk0.1 hi0_n_4594.1) (om_a7f11e2d hdp.1 hdp.2 mn_p0.2 cx_4596 gc_4597))
                  refine va_iald hx hb hK hP 3 2 rfl rfl (ti_in vx_4602 (om_fc2812d4 hk0.1 hi0_n_4594.1) (om_9a551369 hk0.2 s_nodes.2 mn_p0.2 cx_4596 gc_4597)) dX7_worthAt_93 ?_
                  refine lv_topi (fun x_4603 ex_4603 => ?_)
                  have kx_4603 : (fQ x_4602.toNatClampNeg).toInt = x_4603.toInt := by rw [ex_4603]
                  have cx_4603 : (fQ (4 * p0.toNatClampNeg + z_4592.toNatClampNeg)).toInt = x_4603.toInt := by rw [show 4 * p0.toNatClampNeg + z_4592.toNatClampNeg = x_4602.toNatClampNeg from by have q9 := ti_cl (x := x_4602) vx_4602 (om_fc2812d4 hk0.1 hi0_n_4594.1); have q_p0 := ti_cl (x := p0) rfl (om_83bd56b0 hk0.1); have q_z_4592 := ti_cl (x := z_4592) rfl (om_83bd56b0 hi0_n_4594.1); omega]; exact kx_4603
                  have wx_4603 := r_Q.lt p0.toNatClampNeg (z_4592.toNatClampNeg) (by have q_1 := ti_cl (x := p0) rfl (om_83bd56b0 hk0.1); have q_2 := ti_cl (x := z_4592) rfl (om_83bd56b0 hi0_n_4594.1); omega) (by have q_1 := ti_cl (x := p0) rfl (om_83bd56b0 hk0.1); have q_2 := ti_cl (x := z_4592) rfl (om_83bd56b0 hi0_n_4594.1); omega)
                  have wx_4603 : 0 ≤ x_4603.toInt ∧ x_4603.toInt < p0.toInt := by have q_1 := ti_cl (x := p0) rfl (om_83bd56b0 hk0.1); have q_2 := ti_cl (x := z_4592) rfl (om_83bd56b0 hi0_n_4594.1); have q_3 := cx_4603; rw [show 4 * p0.toNatClampNeg + (z_4592.toNatClampNeg) = 4 * p0.toNatClampNeg + z_4592.toNatClampNeg from by omega] at wx_4603; omega
                  refine lv_istore (lv' := [(7, .int x_4603), (6, .int z_4592), (5, .int z_4593), (4, .int x_4587), (0, .ref oM), (1, .ref rQ), (2, .int p0), (3, .int p1)]) hx hb dX7_worthAt_94 hl (by decide) rfl (fun ls hl => ?_)
                  refine lv_aload_n hx hb dX7_worthAt_96 rfl (lv_at hl 4 rfl) ?_
                  refine lv_aload_n hx hb dX7_worthAt_97 rfl (lv_at hl 5 rfl) ?_
                  refine lv_iload hx hb dX7_worthAt_98 (lv_at hl 0 rfl) ?_
                  refine lv_iload_n hx hb dX7_worthAt_100 rfl (lv_at hl 7 rfl) ?_
                  refine lv_iconst (v := 1) hx hb dX7_worthAt_101 (by decide) ?_
                  refine lv_iadd hx hb dX7_worthAt_102 ?_
                  refine lv_topi (fun x_4604 ex_4604 => ?_)
                  have vx_4604 : x_4604.toInt = p1.toInt + 1 := ti_add ex_4604 rfl kc_1 (om_4e4fce7e hdp.1) (om_994f3184 hk0.1 hdp.2)
                  have hFc := va_freeI hD hS hA
                  refine va_calli (va_runV (As := [.ref rQ, .int x_4603, .int x_4604]) (rest := []) ⟨hx, hb, hml, hown, hts⟩ (ih9 _ oM iM_thrown rM_tape iM_taped iM_size iM_at iM_end iM_token iM_whole iM_nameSize iM_fault iM_place iM_trouble rM_letters iM_failed iM_hasCourt rM_r fM_r kM_r rM_fresh rM_told fM_told kM_told rM_read rM_st rM_undone rM_kept iM_undos iM_images rM_fresher iM_fresherSize iM_scale iM_night rM_heardRow rM_cutRow iM_breaths iM_cutMany iM_allBreaths rM_trial rM_words iM_fewestBreaths iM_orderMany iM_orderSum iM_leastOrder rM_often iM_setMany iM_someOf iM_allOf iM_allWeight iM_enoughWeight iM_worthSum iM_firstRest iM_leastDrawn rQ fQ kQ x_4603 x_4604 b_iM_taped b_iM_size b_iM_end b_iM_failed b_iM_hasCourt b_iM_undos b_iM_images b_iM_scale b_iM_breaths b_iM_cutMany (by assumption) (by assumption) (by assumption) (by assumption) ⟨(om_83bd56b0 wx_4603.1), (om_90a71968 hk0.2 wx_4603.2)⟩ (om_bd90d29b hnt) ⟨(om_83b90de5 hdp.1 vx_4604), (om_a06ed41a hdp.2 wx_4603.2 vx_4604)⟩ (by first | assumption | (have q0 := kc_0; have q1 := kc_1; first | exact ⟨by omega, by omega⟩ | omega) | decide | (intro h; exact absurd h (by decide)))) (cwV 3 hts (wd_V wd_649 wd_650 wd_651 wd_5 (wd_c wd_652)) rfl rfl rfl (by decide +kernel) ⟨(show (1 + n9) + 1 ≤ 1 + (n9 + 1) by omega), (show 8 + (9 + 11) + (10 + 28 * n9) ≤ 10 + 28 * (n9 + 1) by omega)⟩) ⟨Pw.fb, recvX7 hK hP (q0 := 0) rfl, fun U hU hW => Pw.to hP hD hK hE hS hFc hU hW⟩ rfl rfl hl.1 rfl (lv_room (Nat.le_of_ble_eq_true rfl)) dX7_worthAt_103 ⟨Nat.le_of_ble_eq_true rfl, Nat.le_of_ble_eq_true rfl⟩) hS (fun q _ h => hFc q h) hFc (fun r u t H locs ht hvm hw hB hz1 hk1 hS => ?_)
                  obtain ⟨hP, hD⟩ := Bw.goA (ws' := [(oc7 oM iM_thrown rM_tape iM_taped iM_size iM_at iM_end iM_token iM_whole iM_nameSize iM_fault iM_place iM_trouble rM_letters iM_failed iM_hasCourt rM_r rM_fresh rM_told rM_read rM_st rM_undone rM_kept iM_undos iM_images rM_fresher iM_fresherSize iM_scale iM_night rM_heardRow rM_cutRow iM_breaths iM_cutMany iM_allBreaths rM_trial rM_words iM_fewestBreaths iM_orderMany iM_orderSum iM_leastOrder rM_often iM_setMany iM_someOf iM_allOf iM_allWeight iM_enoughWeight iM_worthSum iM_firstRest iM_leastDrawn), (arI rM_r kM_r 287 fM_r), (arI rM_told kM_told 90 fM_told), (arI rQ kQ 90 fQ)]) hB rfl ht hFc rfl
                  clear hz1 hk1 hvm ht hB
                  obtain ⟨x_4605, rfl⟩ : ∃ z, z = r := ⟨_, rfl⟩
                  have lx_4605 := hw.2
                  refine lv_istore (lv' := [(8, .int x_4605), (7, .int x_4603), (6, .int z_4592), (5, .int z_4593), (4, .int x_4587), (0, .ref oM), (1, .ref rQ), (2, .int p0), (3, .int p1)]) hx hb dX7_worthAt_106 hl (by decide) rfl (fun ls hl => ?_)
                  refine lv_iload hx hb dX7_worthAt_108 (lv_at hl 4 rfl) ?_
                  refine lv_iconst (v := 1) hx hb dX7_worthAt_110 (by decide) ?_
                  refine lv_icmp_ne (tgt := 133) hx hb dX7_worthAt_111 (by decide) (fun c_4606 => ?_) (fun c_4606 => ?_)
                  · skip
                    have gc_4606 := ti_ne c_4606 rfl kc_1
                    refine lv_iload hx hb dX7_worthAt_133 (lv_at hl 4 rfl) ?_
                    refine lv_iconst (v := 2) hx hb dX7_worthAt_135 (by decide) ?_
                    refine lv_icmp_ne (tgt := 158) hx hb dX7_worthAt_136 (by decide) (fun c_4607 => ?_) (fun c_4607 => ?_)
                    · skip
                      have gc_4607 := ti_ne c_4607 rfl kc_2
                      refine lv_iload hx hb dX7_worthAt_158 (lv_at hl 3 rfl) ?_
                      refine lv_iload hx hb dX7_worthAt_160 (lv_at hl 0 rfl) ?_
                      refine lv_aload_n hx hb dX7_worthAt_162 rfl (lv_at hl 5 rfl) ?_
                      refine lv_iload_n hx hb dX7_worthAt_163 rfl (lv_at hl 7 rfl) ?_
                      refine lv_iload hx hb dX7_worthAt_164 (lv_at hl 1 rfl) ?_
                      have hMs := ml_of hD [true, true, true, false] (wc := [(oc7 oM iM_thrown rM_tape iM_taped iM_size iM_at iM_end iM_token iM_whole iM_nameSize iM_fault iM_place iM_trouble rM_letters iM_failed iM_hasCourt rM_r rM_fresh rM_told rM_read rM_st rM_undone rM_kept iM_undos iM_images rM_fresher iM_fresherSize iM_scale iM_night rM_heardRow rM_cutRow iM_breaths iM_cutMany iM_allBreaths rM_trial rM_words iM_fewestBreaths iM_orderMany iM_orderSum iM_leastOrder rM_often iM_setMany iM_someOf iM_allOf iM_allWeight iM_enoughWeight iM_worthSum iM_firstRest iM_leastDrawn), (arI rM_r kM_r 287 fM_r), (arI rM_told kM_told 90 fM_told)]) rfl
                      have hFc := va_freeM hD hS hA _ hMs
                      refine va_calli (va_runV (As := [.int p0, .int x_4603]) (rest := [.int x_4605, .int z_4593]) ⟨hx, hb, hml, hown, hts⟩ (tX7_weightOf_x l dC dI _ oM iM_thrown rM_tape iM_taped iM_size iM_at iM_end iM_token iM_whole iM_nameSize iM_fault iM_place iM_trouble rM_letters iM_failed iM_hasCourt rM_r fM_r kM_r rM_fresh rM_told fM_told kM_told rM_read rM_st rM_undone rM_kept iM_undos iM_images rM_fresher iM_fresherSize iM_scale iM_night rM_heardRow rM_cutRow iM_breaths iM_cutMany iM_allBreaths rM_trial rM_words iM_fewestBreaths iM_orderMany iM_orderSum iM_leastOrder rM_often iM_setMany iM_someOf iM_allOf iM_allWeight iM_enoughWeight iM_worthSum iM_firstRest iM_leastDrawn p0 x_4603 b_iM_taped b_iM_size b_iM_end b_iM_failed b_iM_hasCourt b_iM_undos b_iM_images b_iM_scale b_iM_breaths b_iM_cutMany (by assumption) (by assumption) (by assumption) ⟨(om_83bd56b0 hk0.1), (om_c6249b78 hk0.2)⟩) (cwV 2 hts (wd_V wd_587 wd_588 wd_589 wd_5 (wd_c wd_590)) rfl rfl rfl dv_yX7_weightOf_2 ⟨(show (0) + 1 ≤ 1 + (n9 + 1) by omega), (show 8 + (4 + 11) + (0) ≤ 10 + 28 * (n9 + 1) by omega)⟩) ⟨Pw.fb, recvX7 hK hP (q0 := 0) rfl, fun U hU hW => Pw.to (hP.ms _ hMs) (hD.ms _ hMs) (hK.ms [true, true, false] rfl) hE hS hFc hU hW⟩ rfl rfl hl.1 rfl (lv_room (Nat.le_of_ble_eq_true rfl)) dX7_worthAt_166 ⟨Nat.le_of_ble_eq_true rfl, Nat.le_of_ble_eq_true rfl⟩) hS (fun q _ h => hFc q h) hFc (fun r u t H locs ht hvm hw hB hz1 hk1 hS => ?_)
                      obtain ⟨hP, hD⟩ := Bw.goN (ws' := [(oc7 oM iM_thrown rM_tape iM_taped iM_size iM_at iM_end iM_token iM_whole iM_nameSize iM_fault iM_place iM_trouble rM_letters iM_failed iM_hasCourt rM_r rM_fresh rM_told rM_read rM_st rM_undone rM_kept iM_undos iM_images rM_fresher iM_fresherSize iM_scale iM_night rM_heardRow rM_cutRow iM_breaths iM_cutMany iM_allBreaths rM_trial rM_words iM_fewestBreaths iM_orderMany iM_orderSum iM_leastOrder rM_often iM_setMany iM_someOf iM_allOf iM_allWeight iM_enoughWeight iM_worthSum iM_firstRest iM_leastDrawn), (arI rM_r kM_r 287 fM_r), (arI rM_told kM_told 90 fM_told), (arI rQ kQ 90 fQ)]) hB rfl ht hP hD _ hMs hk1 hFc rfl
                      clear hz1 hk1 hvm ht hB hMs
                      obtain ⟨x_4608, rfl⟩ : ∃ z, z = r := ⟨_, rfl⟩
                      have lx_4608 := hw.2
                      have ux_4608 := hw.2
                      refine lv_imul hx hb dX7_worthAt_169 ?_
                      refine lv_topi (fun x_4609 ex_4609 => ?_)
                      refine lv_iadd hx hb dX7_worthAt_170 ?_
                      refine lv_topi (fun x_4610 ex_4610 => ?_)
                      refine lv_istore (lv' := [(5, .int x_4610), (8, .int x_4605), (7, .int x_4603), (6, .int z_4592), (4, .int x_4587), (0, .ref oM), (1, .ref rQ), (2, .int p0), (3, .int p1)]) hx hb dX7_worthAt_171 hl (by decide) rfl (fun ls hl => ?_)
                      obtain ⟨x_4611, ex_4611⟩ : ∃ z : Int32, z = z_4592 + Int32.ofInt 1 := ⟨_, rfl⟩
                      have vx_4611 : x_4611.toInt = z_4592.toInt + 1 := ti_add (y := 1) ex_4611 rfl kc_1 (om_4e4fce7e hi0_n_4594.1) (om_813b24f4 mn_p0.2 cx_4596 gc_4597)
                      refine lv_iinc (v := x_4611) (lv' := [(6, .int x_4611), (5, .int x_4610), (8, .int x_4605), (7, .int x_4603), (4, .int x_4587), (0, .ref oM), (1, .ref rQ), (2, .int p0), (3, .int p1)]) hx hb dX7_worthAt_173 hl (k := 3) rfl ex_4611.symm (by decide) rfl (fun ls hl => ?_)
                      refine lv_goto (tgt := 72) hx hb dX7_worthAt_176 (by decide) ?_
                      exact ih_n_4594 x_4611 x_4610 _ _ _  ⟨(om_83b90de5 hi0_n_4594.1 vx_4611), (om_1ad1f819 cx_4596 gc_4597 vx_4611)⟩ (fold_step (v := x_4605) (part := x_4603) hi1_n_4594 (by have q := cx_4603; rw [show 4 * p0.toNatClampNeg + z_4592.toNatClampNeg = 4 * p0.toNatClampNeg + z_4592.toNatClampNeg from by omega]; exact q) lx_4605 (step_c (by omega) (by omega) ex_4610 ex_4609 lx_4608.2) (by have q1 := ti_cl (x := x_4611) vx_4611 (om_9548a8fd hi0_n_4594.1); have q2 := ti_cl (x := z_4592) rfl (om_83bd56b0 hi0_n_4594.1); omega)) (ms_lt hm_n_4594 (om_ed22490e vx_4611) (om_e4be4046 mn_p0.2 cx_4596 gc_4597)) hP hD hS (lv_sub hl [0, 1, 4, 5, 6, 7, 8] rfl)
                    · skip
                      have gc_4607 := ti_eq c_4607 rfl kc_2
                      refine lv_iload hx hb dX7_worthAt_139 (lv_at hl 0 rfl) ?_
                      refine lv_iload hx hb dX7_worthAt_141 (lv_at hl 3 rfl) ?_
                      refine lv_icmp_ge (tgt := 151) hx hb dX7_worthAt_143 (by decide) (fun c_4612 => ?_) (fun c_4612 => ?_)
                      · skip
                        have gc_4612 := ti_le c_4612 rfl rfl
                        refine lv_iload hx hb dX7_worthAt_151 (lv_at hl 3 rfl) ?_
                        refine lv_istore (lv' := [(5, .int z_4593), (8, .int x_4605), (7, .int x_4603), (6, .int z_4592), (4, .int x_4587), (0, .ref oM), (1, .ref rQ), (2, .int p0), (3, .int p1)]) hx hb dX7_worthAt_153 hl (by decide) rfl (fun ls hl => ?_)
                        refine lv_goto (tgt := 173) hx hb dX7_worthAt_155 (by decide) ?_
                        obtain ⟨x_4613, ex_4613⟩ : ∃ z : Int32, z = z_4592 + Int32.ofInt 1 := ⟨_, rfl⟩
                        have vx_4613 : x_4613.toInt = z_4592.toInt + 1 := ti_add (y := 1) ex_4613 rfl kc_1 (om_4e4fce7e hi0_n_4594.1) (om_813b24f4 mn_p0.2 cx_4596 gc_4597)
                        refine lv_iinc (v := x_4613) (lv' := [(6, .int x_4613), (5, .int z_4593), (8, .int x_4605), (7, .int x_4603), (4, .int x_4587), (0, .ref oM), (1, .ref rQ), (2, .int p0), (3, .int p1)]) hx hb dX7_worthAt_173 hl (k := 3) rfl ex_4613.symm (by decide) rfl (fun ls hl => ?_)
                        refine lv_goto (tgt := 72) hx hb dX7_worthAt_176 (by decide) ?_
                        exact ih_n_4594 x_4613 z_4593 _ _ _  ⟨(om_83b90de5 hi0_n_4594.1 vx_4613), (om_1ad1f819 cx_4596 gc_4597 vx_4613)⟩ (fold_step (v := x_4605) (part := x_4603) hi1_n_4594 (by have q := cx_4603; rw [show 4 * p0.toNatClampNeg + z_4592.toNatClampNeg = 4 * p0.toNatClampNeg + z_4592.toNatClampNeg from by omega]; exact q) lx_4605 (by first | exact step_k0 (by omega) (by omega) | exact step_q0 (by omega) (by omega)) (by have q1 := ti_cl (x := x_4613) vx_4613 (om_9548a8fd hi0_n_4594.1); have q2 := ti_cl (x := z_4592) rfl (om_83bd56b0 hi0_n_4594.1); omega)) (ms_lt hm_n_4594 (om_ed22490e vx_4613) (om_e4be4046 mn_p0.2 cx_4596 gc_4597)) hP hD hS (lv_sub hl [0, 1, 4, 5, 6, 7, 8] rfl)
                      · skip
                        have gc_4612 := ti_nle c_4612 rfl rfl
                        refine lv_iload hx hb dX7_worthAt_146 (lv_at hl 0 rfl) ?_
                        refine lv_goto (tgt := 153) hx hb dX7_worthAt_148 (by decide) ?_
                        refine lv_istore (lv' := [(5, .int x_4605), (8, .int x_4605), (7, .int x_4603), (6, .int z_4592), (4, .int x_4587), (0, .ref oM), (1, .ref rQ), (2, .int p0), (3, .int p1)]) hx hb dX7_worthAt_153 hl (by decide) rfl (fun ls hl => ?_)
                        refine lv_goto (tgt := 173) hx hb dX7_worthAt_155 (by decide) ?_
                        obtain ⟨x_4614, ex_4614⟩ : ∃ z : Int32, z = z_4592 + Int32.ofInt 1 := ⟨_, rfl⟩
                        have vx_4614 : x_4614.toInt = z_4592.toInt + 1 := ti_add (y := 1) ex_4614 rfl kc_1 (om_4e4fce7e hi0_n_4594.1) (om_813b24f4 mn_p0.2 cx_4596 gc_4597)
                        refine lv_iinc (v := x_4614) (lv' := [(6, .int x_4614), (5, .int x_4605), (8, .int x_4605), (7, .int x_4603), (4, .int x_4587), (0, .ref oM), (1, .ref rQ), (2, .int p0), (3, .int p1)]) hx hb dX7_worthAt_173 hl (k := 3) rfl ex_4614.symm (by decide) rfl (fun ls hl => ?_)
                        refine lv_goto (tgt := 72) hx hb dX7_worthAt_176 (by decide) ?_
                        exact ih_n_4594 x_4614 x_4605 _ _ _  ⟨(om_83b90de5 hi0_n_4594.1 vx_4614), (om_1ad1f819 cx_4596 gc_4597 vx_4614)⟩ (fold_step (v := x_4605) (part := x_4603) hi1_n_4594 (by have q := cx_4603; rw [show 4 * p0.toNatClampNeg + z_4592.toNatClampNeg = 4 * p0.toNatClampNeg + z_4592.toNatClampNeg from by omega]; exact q) lx_4605 (by first | exact step_k1 (by omega) (by omega) | exact step_q1 (by omega) (by omega)) (by have q1 := ti_cl (x := x_4614) vx_4614 (om_9548a8fd hi0_n_4594.1); have q2 := ti_cl (x := z_4592) rfl (om_83bd56b0 hi0_n_4594.1); omega)) (ms_lt hm_n_4594 (om_ed22490e vx_4614) (om_e4be4046 mn_p0.2 cx_4596 gc_4597)) hP hD hS (lv_sub hl [0, 1, 4, 5, 6, 7, 8] rfl)
                  · skip
                    have gc_4606 := ti_eq c_4606 rfl kc_1
                    exfalso; omega
            exact key_n_4594 (((4 - (0 : Int32).toInt).toNat) + 1) 0 0 _ _ _  ⟨(om_b1de7dbe kc_0), (om_2dfe280d mn_p0.1 kc_0)⟩ (by first | (have q0 := kc_0; have q1 := kc_1; omega) | decide | assumption | (show _ = startV _; rw [show (fM_r (9 + p0.toNatClampNeg)).toInt = 1 from by omega]; rfl) | (show _ = startV _; rw [show (fM_r (9 + p0.toNatClampNeg)).toInt = 2 from by omega]; rfl) | (show _ = startV _; rw [show (fM_r (9 + p0.toNatClampNeg)).toInt = 3 from by omega]; rfl)) (Nat.lt_add_one _) hP hD hS hl
          · skip
            have gc_4591 := ti_eq c_4591 rfl kc_1
            refine lv_ldc hx hb hown (hts _ wd_654) dX7_worthAt_61 ?_
            refine lv_goto (tgt := 67) hx hb dX7_worthAt_63 (by decide) ?_
            refine lv_istore (lv' := [(5, .int (-100000000)), (4, .int x_4587), (0, .ref oM), (1, .ref rQ), (2, .int p0), (3, .int p1)]) hx hb dX7_worthAt_67 hl (by decide) rfl (fun ls hl => ?_)
            refine lv_iconst (v := 0) hx hb dX7_worthAt_69 (by decide) ?_
            refine lv_istore (lv' := [(6, .int 0), (5, .int (-100000000)), (4, .int x_4587), (0, .ref oM), (1, .ref rQ), (2, .int p0), (3, .int p1)]) hx hb dX7_worthAt_70 hl (by decide) rfl (fun ls hl => ?_)
            have hl := lv_sub hl (l' := [(6, .int 0), (5, .int (-100000000)), (4, .int x_4587), (0, .ref oM), (1, .ref rQ), (2, .int p0), (3, .int p1)]) [0, 1, 2, 3, 4, 5, 6] rfl
            have key_n_4617 : ∀ (n_4617 : Nat) (z_4615 : Int32) (z_4616 : Int32) (H : Heap) (locs : List Loc) (ls : Array Slot), (0 ≤ z_4615.toInt ∧ z_4615.toInt ≤ (fM_r (27 + p0.toNatClampNeg)).toInt) → (z_4616 = foldV (fM_r (9 + p0.toNatClampNeg)).toInt (startV (fM_r (9 + p0.toNatClampNeg)).toInt) (VF fM_r fM_told fQ iM_scale n9 p0.toNatClampNeg) (WF fM_r fM_told fQ p0.toNatClampNeg) z_4615.toNatClampNeg) → (4 - z_4615.toInt).toNat < n_4617 → va_P (dC, dI) vwCl [(oc7 oM iM_thrown rM_tape iM_taped iM_size iM_at iM_end iM_token iM_whole iM_nameSize iM_fault iM_place iM_trouble rM_letters iM_failed iM_hasCourt rM_r rM_fresh rM_told rM_read rM_st rM_undone rM_kept iM_undos iM_images rM_fresher iM_fresherSize iM_scale iM_night rM_heardRow rM_cutRow iM_breaths iM_cutMany iM_allBreaths rM_trial rM_words iM_fewestBreaths iM_orderMany iM_orderSum iM_leastOrder rM_often iM_setMany iM_someOf iM_allOf iM_allWeight iM_enoughWeight iM_worthSum iM_firstRest iM_leastDrawn), (arI rM_r kM_r 287 fM_r), (arI rM_told kM_told 90 fM_told), (arI rQ kQ 90 fQ)] H → va_D A [(oc7 oM iM_thrown rM_tape iM_taped iM_size iM_at iM_end iM_token iM_whole iM_nameSize iM_fault iM_place iM_trouble rM_letters iM_failed iM_hasCourt rM_r rM_fresh rM_told rM_read rM_st rM_undone rM_kept iM_undos iM_images rM_fresher iM_fresherSize iM_scale iM_night rM_heardRow rM_cutRow iM_breaths iM_cutMany iM_allBreaths rM_trial rM_words iM_fewestBreaths iM_orderMany iM_orderSum iM_leastOrder rM_often iM_setMany iM_someOf iM_allOf iM_allWeight iM_enoughWeight iM_worthSum iM_firstRest iM_leastDrawn), (arI rM_r kM_r 287 fM_r), (arI rM_told kM_told 90 fM_told), (arI rQ kQ 90 fQ)] → va_S A s.heap H locs → lv_has ls 9 [(6, .int z_4615), (5, .int z_4616), (4, .int x_4587), (0, .ref oM), (1, .ref rQ), (2, .int p0), (3, .int p1)] → W p l e (headSpec (Cond.code yX7_worthAt cX7_worthAt 9 (some .int) :: wG) ({ frames := 1 + (n9 + 1), cells := 0, slots := 0, locals := 10 + 28 * (n9 + 1) })).room s m ([.ref oM, .ref rQ, .int p0, .int p1] : List Value).toArray below meth c H locs 0 0 (MQ below (va_Qi (fun (r : Int32) (_ : Nat) => True ∧ (r = rval fM_r fM_told fQ iM_scale (n9 + 1) p0.toNatClampNeg)) (fun (_ : Nat) (t : State) => Bw dC dI A [(oc7 oM iM_thrown rM_tape iM_taped iM_size iM_at iM_end iM_token iM_whole iM_nameSize iM_fault iM_place iM_trouble rM_letters iM_failed iM_hasCourt rM_r rM_fresh rM_told rM_read rM_st rM_undone rM_kept iM_undos iM_images rM_fresher iM_fresherSize iM_scale iM_night rM_heardRow rM_cutRow iM_breaths iM_cutMany iM_allBreaths rM_trial rM_words iM_fewestBreaths iM_orderMany iM_orderSum iM_leastOrder rM_often iM_setMany iM_someOf iM_allOf iM_allWeight iM_enoughWeight iM_worthSum iM_firstRest iM_leastDrawn), (arI rM_r kM_r 287 fM_r), (arI rM_told kM_told 90 fM_told), (arI rQ kQ 90 fQ)] [(kM_r, .int), (kM_told, .int), (kQ, .int)] t) A) ([.ref oM, .ref rQ, .int p0, .int p1] : List Value).toArray s 0 0 A) (F0 m 72 ls []) := by
              intro n_4617
              induction n_4617 with
              | zero => intro z_4615 z_4616 H locs ls hi0_n_4617 hi1_n_4617 hm; exact absurd hm (Nat.not_lt_zero _)
              | succ n_4617 ih_n_4617 =>
                intro z_4615 z_4616 H locs ls hi0_n_4617 hi1_n_4617 hm_n_4617 hP hD hS hl
                refine lv_iload hx hb dX7_worthAt_72 (lv_at hl 0 rfl) ?_
                refine lv_aload_n hx hb dX7_worthAt_74 rfl (lv_at hl 3 rfl) ?_
                refine va_get (D := (dC, dI)) (ci := 7) (v := .ref rM_r) (C := RX7) (T := TX7) (N := 48) hx hb hts inX7 hown hK hP 0 rfl rfl 15 (by decide) (hts _ wd_155) (fun _ h9 => h9) rfl dX7_worthAt_75 ?_
                refine lv_bipush (v := 27) hx hb dX7_worthAt_78 (by decide) ?_
                refine lv_iload_n hx hb dX7_worthAt_80 rfl (lv_at hl 5 rfl) ?_
                refine lv_iadd hx hb dX7_worthAt_81 ?_
                refine lv_topi (fun x_4618 ex_4618 => ?_)
                have vx_4618 : x_4618.toInt = p0.toInt + 27 := om_6c48219a (ti_add ex_4618 kc_27 rfl (om_edd3f7cf hk0.1) (om_54ed7536 hdp.1 hdp.2))
                refine va_iald hx hb hK hP 1 0 rfl rfl (ti_in vx_4618 (om_b4b48b7f hk0.1) (om_d6e519bf hdp.1 hdp.2)) dX7_worthAt_82 ?_
                refine lv_topi (fun x_4619 ex_4619 => ?_)
                have kx_4619 : (fM_r x_4618.toNatClampNeg).toInt = x_4619.toInt := by rw [ex_4619]
                have cx_4619 : (fM_r (27 + p0.toNatClampNeg)).toInt = x_4619.toInt := by rw [show 27 + p0.toNatClampNeg = x_4618.toNatClampNeg from by have q9 := ti_cl (x := x_4618) vx_4618 (om_b4b48b7f hk0.1); have q_p0 := ti_cl (x := p0) rfl (om_83bd56b0 hk0.1); omega]; exact kx_4619
                have sx_4619 := r_R.many x_4618.toNatClampNeg (by have q9 := ti_cl (x := x_4618) vx_4618 (om_b4b48b7f hk0.1); omega) (by have q9 := ti_cl (x := x_4618) vx_4618 (om_b4b48b7f hk0.1); omega)
                refine lv_icmp_ge (tgt := 179) hx hb dX7_worthAt_83 (by decide) (fun c_4620 => ?_) (fun c_4620 => ?_)
                · skip
                  have gc_4620 := ti_le c_4620 rfl rfl
                  refine lv_iload hx hb dX7_worthAt_179 (lv_at hl 2 rfl) ?_
                  refine lv_iconst (v := 3) hx hb dX7_worthAt_181 (by decide) ?_
                  refine lv_icmp_ne (tgt := 196) hx hb dX7_worthAt_182 (by decide) (fun c_4621 => ?_) (fun c_4621 => ?_)
                  · skip
                    have gc_4621 := ti_ne c_4621 rfl kc_3
                    refine lv_iload hx hb dX7_worthAt_196 (lv_at hl 1 rfl) ?_
                    exact wq_i hx hb hr 0 ⟨trivial, (rval_fold (by omega) (by omega) hi1_n_4617 (by have q1 := ti_cl (x := z_4615) rfl (by omega); omega))⟩ (fun t ht hW => Bw.to hP hD hK ht hW) hS dX7_worthAt_198 hlocks
                  · skip
                    have gc_4621 := ti_eq c_4621 rfl kc_3
                    exfalso; omega
                · skip
                  have gc_4620 := ti_nle c_4620 rfl rfl
                  refine lv_aload_n hx hb dX7_worthAt_86 rfl (lv_at hl 4 rfl) ?_
                  refine lv_iconst (v := 4) hx hb dX7_worthAt_87 (by decide) ?_
                  refine lv_iload_n hx hb dX7_worthAt_88 rfl (lv_at hl 5 rfl) ?_
                  refine lv_imul hx hb dX7_worthAt_89 ?_
                  refine lv_topi (fun x_4622 ex_4622 => ?_)
                  have vx_4622 : x_4622.toInt = 4 * p0.toInt := ti_mul ex_4622 kc_4 rfl (om_56b74365 hk0.1) (om_1e4644e1 hdp.1 hdp.2)
                  refine lv_iload hx hb dX7_worthAt_90 (lv_at hl 0 rfl) ?_
                  refine lv_iadd hx hb dX7_worthAt_92 ?_
                  refine lv_topi (fun x_4623 ex_4623 => ?_)
                  have vx_4623 : x_4623.toInt = 4 * p0.toInt + z_4615.toInt := om_5d0caf0f (ti_add ex_4623 vx_4622 rfl (om_056a216f hk0.1 hi0_n_4617.1) (om_a7f11e2d hdp.1 hdp.2 mn_p0.2 cx_4619 gc_4620))
                  refine va_iald hx hb hK hP 3 2 rfl rfl (ti_in vx_4623 (om_fc2812d4 hk0.1 hi0_n_4617.1) (om_9a551369 hk0.2 s_nodes.2 mn_p0.2 cx_4619 gc_4620)) dX7_worthAt_93 ?_
                  refine lv_topi (fun x_4624 ex_4624 => ?_)
                  have kx_4624 : (fQ x_4623.toNatClampNeg).toInt = x_4624.toInt := by rw [ex_4624]
                  have cx_4624 : (fQ (4 * p0.toNatClampNeg + z_4615.toNatClampNeg)).toInt = x_4624.toInt := by rw [show 4 * p0.toNatClampNeg + z_4615.toNatClampNeg = x_4623.toNatClampNeg from by have q9 := ti_cl (x := x_4623) vx_4623 (om_fc2812d4 hk0.1 hi0_n_4617.1); have q_p0 := ti_cl (x := p0) rfl (om_83bd56b0 hk0.1); have q_z_4615 := ti_cl (x := z_4615) rfl (om_83bd56b0 hi0_n_4617.1); omega]; exact kx_4624
                  have wx_4624 := r_Q.lt p0.toNatClampNeg (z_4615.toNatClampNeg) (by have q_1 := ti_cl (x := p0) rfl (om_83bd56b0 hk0.1); have q_2 := ti_cl (x := z_4615) rfl (om_83bd56b0 hi0_n_4617.1); omega) (by have q_1 := ti_cl (x := p0) rfl (om_83bd56b0 hk0.1); have q_2 := ti_cl (x := z_4615) rfl (om_83bd56b0 hi0_n_4617.1); omega)
                  have wx_4624 : 0 ≤ x_4624.toInt ∧ x_4624.toInt < p0.toInt := by have q_1 := ti_cl (x := p0) rfl (om_83bd56b0 hk0.1); have q_2 := ti_cl (x := z_4615) rfl (om_83bd56b0 hi0_n_4617.1); have q_3 := cx_4624; rw [show 4 * p0.toNatClampNeg + (z_4615.toNatClampNeg) = 4 * p0.toNatClampNeg + z_4615.toNatClampNeg from by omega] at wx_4624; omega
                  refine lv_istore (lv' := [(7, .int x_4624), (6, .int z_4615), (5, .int z_4616), (4, .int x_4587), (0, .ref oM), (1, .ref rQ), (2, .int p0), (3, .int p1)]) hx hb dX7_worthAt_94 hl (by decide) rfl (fun ls hl => ?_)
                  refine lv_aload_n hx hb dX7_worthAt_96 rfl (lv_at hl 4 rfl) ?_
                  refine lv_aload_n hx hb dX7_worthAt_97 rfl (lv_at hl 5 rfl) ?_
                  refine lv_iload hx hb dX7_worthAt_98 (lv_at hl 0 rfl) ?_
                  refine lv_iload_n hx hb dX7_worthAt_100 rfl (lv_at hl 7 rfl) ?_
                  refine lv_iconst (v := 1) hx hb dX7_worthAt_101 (by decide) ?_
                  refine lv_iadd hx hb dX7_worthAt_102 ?_
                  refine lv_topi (fun x_4625 ex_4625 => ?_)
                  have vx_4625 : x_4625.toInt = p1.toInt + 1 := ti_add ex_4625 rfl kc_1 (om_4e4fce7e hdp.1) (om_994f3184 hk0.1 hdp.2)
                  have hFc := va_freeI hD hS hA
                  refine va_calli (va_runV (As := [.ref rQ, .int x_4624, .int x_4625]) (rest := []) ⟨hx, hb, hml, hown, hts⟩ (ih9 _ oM iM_thrown rM_tape iM_taped iM_size iM_at iM_end iM_token iM_whole iM_nameSize iM_fault iM_place iM_trouble rM_letters iM_failed iM_hasCourt rM_r fM_r kM_r rM_fresh rM_told fM_told kM_told rM_read rM_st rM_undone rM_kept iM_undos iM_images rM_fresher iM_fresherSize iM_scale iM_night rM_heardRow rM_cutRow iM_breaths iM_cutMany iM_allBreaths rM_trial rM_words iM_fewestBreaths iM_orderMany iM_orderSum iM_leastOrder rM_often iM_setMany iM_someOf iM_allOf iM_allWeight iM_enoughWeight iM_worthSum iM_firstRest iM_leastDrawn rQ fQ kQ x_4624 x_4625 b_iM_taped b_iM_size b_iM_end b_iM_failed b_iM_hasCourt b_iM_undos b_iM_images b_iM_scale b_iM_breaths b_iM_cutMany (by assumption) (by assumption) (by assumption) (by assumption) ⟨(om_83bd56b0 wx_4624.1), (om_90a71968 hk0.2 wx_4624.2)⟩ (om_bd90d29b hnt) ⟨(om_83b90de5 hdp.1 vx_4625), (om_a06ed41a hdp.2 wx_4624.2 vx_4625)⟩ (by first | assumption | (have q0 := kc_0; have q1 := kc_1; first | exact ⟨by omega, by omega⟩ | omega) | decide | (intro h; exact absurd h (by decide)))) (cwV 3 hts (wd_V wd_649 wd_650 wd_651 wd_5 (wd_c wd_652)) rfl rfl rfl (by decide +kernel) ⟨(show (1 + n9) + 1 ≤ 1 + (n9 + 1) by omega), (show 8 + (9 + 11) + (10 + 28 * n9) ≤ 10 + 28 * (n9 + 1) by omega)⟩) ⟨Pw.fb, recvX7 hK hP (q0 := 0) rfl, fun U hU hW => Pw.to hP hD hK hE hS hFc hU hW⟩ rfl rfl hl.1 rfl (lv_room (Nat.le_of_ble_eq_true rfl)) dX7_worthAt_103 ⟨Nat.le_of_ble_eq_true rfl, Nat.le_of_ble_eq_true rfl⟩) hS (fun q _ h => hFc q h) hFc (fun r u t H locs ht hvm hw hB hz1 hk1 hS => ?_)
                  obtain ⟨hP, hD⟩ := Bw.goA (ws' := [(oc7 oM iM_thrown rM_tape iM_taped iM_size iM_at iM_end iM_token iM_whole iM_nameSize iM_fault iM_place iM_trouble rM_letters iM_failed iM_hasCourt rM_r rM_fresh rM_told rM_read rM_st rM_undone rM_kept iM_undos iM_images rM_fresher iM_fresherSize iM_scale iM_night rM_heardRow rM_cutRow iM_breaths iM_cutMany iM_allBreaths rM_trial rM_words iM_fewestBreaths iM_orderMany iM_orderSum iM_leastOrder rM_often iM_setMany iM_someOf iM_allOf iM_allWeight iM_enoughWeight iM_worthSum iM_firstRest iM_leastDrawn), (arI rM_r kM_r 287 fM_r), (arI rM_told kM_told 90 fM_told), (arI rQ kQ 90 fQ)]) hB rfl ht hFc rfl
                  clear hz1 hk1 hvm ht hB
                  obtain ⟨x_4626, rfl⟩ : ∃ z, z = r := ⟨_, rfl⟩
                  have lx_4626 := hw.2
                  refine lv_istore (lv' := [(8, .int x_4626), (7, .int x_4624), (6, .int z_4615), (5, .int z_4616), (4, .int x_4587), (0, .ref oM), (1, .ref rQ), (2, .int p0), (3, .int p1)]) hx hb dX7_worthAt_106 hl (by decide) rfl (fun ls hl => ?_)
                  refine lv_iload hx hb dX7_worthAt_108 (lv_at hl 4 rfl) ?_
                  refine lv_iconst (v := 1) hx hb dX7_worthAt_110 (by decide) ?_
                  refine lv_icmp_ne (tgt := 133) hx hb dX7_worthAt_111 (by decide) (fun c_4627 => ?_) (fun c_4627 => ?_)
                  · skip
                    have gc_4627 := ti_ne c_4627 rfl kc_1
                    exfalso; omega
                  · skip
                    have gc_4627 := ti_eq c_4627 rfl kc_1
                    refine lv_iload hx hb dX7_worthAt_114 (lv_at hl 0 rfl) ?_
                    refine lv_iload hx hb dX7_worthAt_116 (lv_at hl 3 rfl) ?_
                    refine lv_icmp_le (tgt := 126) hx hb dX7_worthAt_118 (by decide) (fun c_4628 => ?_) (fun c_4628 => ?_)
                    · skip
                      have gc_4628 := ti_le c_4628 rfl rfl
                      refine lv_iload hx hb dX7_worthAt_126 (lv_at hl 3 rfl) ?_
                      refine lv_istore (lv' := [(5, .int z_4616), (8, .int x_4626), (7, .int x_4624), (6, .int z_4615), (4, .int x_4587), (0, .ref oM), (1, .ref rQ), (2, .int p0), (3, .int p1)]) hx hb dX7_worthAt_128 hl (by decide) rfl (fun ls hl => ?_)
                      refine lv_goto (tgt := 173) hx hb dX7_worthAt_130 (by decide) ?_
                      obtain ⟨x_4629, ex_4629⟩ : ∃ z : Int32, z = z_4615 + Int32.ofInt 1 := ⟨_, rfl⟩
                      have vx_4629 : x_4629.toInt = z_4615.toInt + 1 := ti_add (y := 1) ex_4629 rfl kc_1 (om_4e4fce7e hi0_n_4617.1) (om_813b24f4 mn_p0.2 cx_4619 gc_4620)
                      refine lv_iinc (v := x_4629) (lv' := [(6, .int x_4629), (5, .int z_4616), (8, .int x_4626), (7, .int x_4624), (4, .int x_4587), (0, .ref oM), (1, .ref rQ), (2, .int p0), (3, .int p1)]) hx hb dX7_worthAt_173 hl (k := 3) rfl ex_4629.symm (by decide) rfl (fun ls hl => ?_)
                      refine lv_goto (tgt := 72) hx hb dX7_worthAt_176 (by decide) ?_
                      exact ih_n_4617 x_4629 z_4616 _ _ _  ⟨(om_83b90de5 hi0_n_4617.1 vx_4629), (om_1ad1f819 cx_4619 gc_4620 vx_4629)⟩ (fold_step (v := x_4626) (part := x_4624) hi1_n_4617 (by have q := cx_4624; rw [show 4 * p0.toNatClampNeg + z_4615.toNatClampNeg = 4 * p0.toNatClampNeg + z_4615.toNatClampNeg from by omega]; exact q) lx_4626 (by first | exact step_k0 (by omega) (by omega) | exact step_q0 (by omega) (by omega)) (by have q1 := ti_cl (x := x_4629) vx_4629 (om_9548a8fd hi0_n_4617.1); have q2 := ti_cl (x := z_4615) rfl (om_83bd56b0 hi0_n_4617.1); omega)) (ms_lt hm_n_4617 (om_ed22490e vx_4629) (om_e4be4046 mn_p0.2 cx_4619 gc_4620)) hP hD hS (lv_sub hl [0, 1, 4, 5, 6, 7, 8] rfl)
                    · skip
                      have gc_4628 := ti_nle c_4628 rfl rfl
                      refine lv_iload hx hb dX7_worthAt_121 (lv_at hl 0 rfl) ?_
                      refine lv_goto (tgt := 128) hx hb dX7_worthAt_123 (by decide) ?_
                      refine lv_istore (lv' := [(5, .int x_4626), (8, .int x_4626), (7, .int x_4624), (6, .int z_4615), (4, .int x_4587), (0, .ref oM), (1, .ref rQ), (2, .int p0), (3, .int p1)]) hx hb dX7_worthAt_128 hl (by decide) rfl (fun ls hl => ?_)
                      refine lv_goto (tgt := 173) hx hb dX7_worthAt_130 (by decide) ?_
                      obtain ⟨x_4630, ex_4630⟩ : ∃ z : Int32, z = z_4615 + Int32.ofInt 1 := ⟨_, rfl⟩
                      have vx_4630 : x_4630.toInt = z_4615.toInt + 1 := ti_add (y := 1) ex_4630 rfl kc_1 (om_4e4fce7e hi0_n_4617.1) (om_813b24f4 mn_p0.2 cx_4619 gc_4620)
                      refine lv_iinc (v := x_4630) (lv' := [(6, .int x_4630), (5, .int x_4626), (8, .int x_4626), (7, .int x_4624), (4, .int x_4587), (0, .ref oM), (1, .ref rQ), (2, .int p0), (3, .int p1)]) hx hb dX7_worthAt_173 hl (k := 3) rfl ex_4630.symm (by decide) rfl (fun ls hl => ?_)
                      refine lv_goto (tgt := 72) hx hb dX7_worthAt_176 (by decide) ?_
                      exact ih_n_4617 x_4630 x_4626 _ _ _  ⟨(om_83b90de5 hi0_n_4617.1 vx_4630), (om_1ad1f819 cx_4619 gc_4620 vx_4630)⟩ (fold_step (v := x_4626) (part := x_4624) hi1_n_4617 (by have q := cx_4624; rw [show 4 * p0.toNatClampNeg + z_4615.toNatClampNeg = 4 * p0.toNatClampNeg + z_4615.toNatClampNeg from by omega]; exact q) lx_4626 (by first | exact step_k1 (by omega) (by omega) | exact step_q1 (by omega) (by omega)) (by have q1 := ti_cl (x := x_4630) vx_4630 (om_9548a8fd hi0_n_4617.1); have q2 := ti_cl (x := z_4615) rfl (om_83bd56b0 hi0_n_4617.1); omega)) (ms_lt hm_n_4617 (om_ed22490e vx_4630) (om_e4be4046 mn_p0.2 cx_4619 gc_4620)) hP hD hS (lv_sub hl [0, 1, 4, 5, 6, 7, 8] rfl)
            exact key_n_4617 (((4 - (0 : Int32).toInt).toNat) + 1) 0 (-100000000) _ _ _  ⟨(om_b1de7dbe kc_0), (om_2dfe280d mn_p0.1 kc_0)⟩ (by first | (have q0 := kc_m100000000; have q1 := kc_0; have q2 := kc_1; omega) | decide | assumption | (show _ = startV _; rw [show (fM_r (9 + p0.toNatClampNeg)).toInt = 1 from by omega]; rfl) | (show _ = startV _; rw [show (fM_r (9 + p0.toNatClampNeg)).toInt = 2 from by omega]; rfl) | (show _ = startV _; rw [show (fM_r (9 + p0.toNatClampNeg)).toInt = 3 from by omega]; rfl)) (Nat.lt_add_one _) hP hD hS hl
        · skip
          have gc_4590 := ti_eq c_4590 rfl kc_2
          refine lv_ldc hx hb hown (hts _ wd_653) dX7_worthAt_50 ?_
          refine lv_goto (tgt := 67) hx hb dX7_worthAt_52 (by decide) ?_
          refine lv_istore (lv' := [(5, .int 100000000), (4, .int x_4587), (0, .ref oM), (1, .ref rQ), (2, .int p0), (3, .int p1)]) hx hb dX7_worthAt_67 hl (by decide) rfl (fun ls hl => ?_)
          refine lv_iconst (v := 0) hx hb dX7_worthAt_69 (by decide) ?_
          refine lv_istore (lv' := [(6, .int 0), (5, .int 100000000), (4, .int x_4587), (0, .ref oM), (1, .ref rQ), (2, .int p0), (3, .int p1)]) hx hb dX7_worthAt_70 hl (by decide) rfl (fun ls hl => ?_)
          have hl := lv_sub hl (l' := [(6, .int 0), (5, .int 100000000), (4, .int x_4587), (0, .ref oM), (1, .ref rQ), (2, .int p0), (3, .int p1)]) [0, 1, 2, 3, 4, 5, 6] rfl
          have key_n_4633 : ∀ (n_4633 : Nat) (z_4631 : Int32) (z_4632 : Int32) (H : Heap) (locs : List Loc) (ls : Array Slot), (0 ≤ z_4631.toInt ∧ z_4631.toInt ≤ (fM_r (27 + p0.toNatClampNeg)).toInt) → (z_4632 = foldV (fM_r (9 + p0.toNatClampNeg)).toInt (startV (fM_r (9 + p0.toNatClampNeg)).toInt) (VF fM_r fM_told fQ iM_scale n9 p0.toNatClampNeg) (WF fM_r fM_told fQ p0.toNatClampNeg) z_4631.toNatClampNeg) → (4 - z_4631.toInt).toNat < n_4633 → va_P (dC, dI) vwCl [(oc7 oM iM_thrown rM_tape iM_taped iM_size iM_at iM_end iM_token iM_whole iM_nameSize iM_fault iM_place iM_trouble rM_letters iM_failed iM_hasCourt rM_r rM_fresh rM_told rM_read rM_st rM_undone rM_kept iM_undos iM_images rM_fresher iM_fresherSize iM_scale iM_night rM_heardRow rM_cutRow iM_breaths iM_cutMany iM_allBreaths rM_trial rM_words iM_fewestBreaths iM_orderMany iM_orderSum iM_leastOrder rM_often iM_setMany iM_someOf iM_allOf iM_allWeight iM_enoughWeight iM_worthSum iM_firstRest iM_leastDrawn), (arI rM_r kM_r 287 fM_r), (arI rM_told kM_told 90 fM_told), (arI rQ kQ 90 fQ)] H → va_D A [(oc7 oM iM_thrown rM_tape iM_taped iM_size iM_at iM_end iM_token iM_whole iM_nameSize iM_fault iM_place iM_trouble rM_letters iM_failed iM_hasCourt rM_r rM_fresh rM_told rM_read rM_st rM_undone rM_kept iM_undos iM_images rM_fresher iM_fresherSize iM_scale iM_night rM_heardRow rM_cutRow iM_breaths iM_cutMany iM_allBreaths rM_trial rM_words iM_fewestBreaths iM_orderMany iM_orderSum iM_leastOrder rM_often iM_setMany iM_someOf iM_allOf iM_allWeight iM_enoughWeight iM_worthSum iM_firstRest iM_leastDrawn), (arI rM_r kM_r 287 fM_r), (arI rM_told kM_told 90 fM_told), (arI rQ kQ 90 fQ)] → va_S A s.heap H locs → lv_has ls 9 [(6, .int z_4631), (5, .int z_4632), (4, .int x_4587), (0, .ref oM), (1, .ref rQ), (2, .int p0), (3, .int p1)] → W p l e (headSpec (Cond.code yX7_worthAt cX7_worthAt 9 (some .int) :: wG) ({ frames := 1 + (n9 + 1), cells := 0, slots := 0, locals := 10 + 28 * (n9 + 1) })).room s m ([.ref oM, .ref rQ, .int p0, .int p1] : List Value).toArray below meth c H locs 0 0 (MQ below (va_Qi (fun (r : Int32) (_ : Nat) => True ∧ (r = rval fM_r fM_told fQ iM_scale (n9 + 1) p0.toNatClampNeg)) (fun (_ : Nat) (t : State) => Bw dC dI A [(oc7 oM iM_thrown rM_tape iM_taped iM_size iM_at iM_end iM_token iM_whole iM_nameSize iM_fault iM_place iM_trouble rM_letters iM_failed iM_hasCourt rM_r rM_fresh rM_told rM_read rM_st rM_undone rM_kept iM_undos iM_images rM_fresher iM_fresherSize iM_scale iM_night rM_heardRow rM_cutRow iM_breaths iM_cutMany iM_allBreaths rM_trial rM_words iM_fewestBreaths iM_orderMany iM_orderSum iM_leastOrder rM_often iM_setMany iM_someOf iM_allOf iM_allWeight iM_enoughWeight iM_worthSum iM_firstRest iM_leastDrawn), (arI rM_r kM_r 287 fM_r), (arI rM_told kM_told 90 fM_told), (arI rQ kQ 90 fQ)] [(kM_r, .int), (kM_told, .int), (kQ, .int)] t) A) ([.ref oM, .ref rQ, .int p0, .int p1] : List Value).toArray s 0 0 A) (F0 m 72 ls []) := by
            intro n_4633
            induction n_4633 with
            | zero => intro z_4631 z_4632 H locs ls hi0_n_4633 hi1_n_4633 hm; exact absurd hm (Nat.not_lt_zero _)
            | succ n_4633 ih_n_4633 =>
              intro z_4631 z_4632 H locs ls hi0_n_4633 hi1_n_4633 hm_n_4633 hP hD hS hl
              refine lv_iload hx hb dX7_worthAt_72 (lv_at hl 0 rfl) ?_
              refine lv_aload_n hx hb dX7_worthAt_74 rfl (lv_at hl 3 rfl) ?_
              refine va_get (D := (dC, dI)) (ci := 7) (v := .ref rM_r) (C := RX7) (T := TX7) (N := 48) hx hb hts inX7 hown hK hP 0 rfl rfl 15 (by decide) (hts _ wd_155) (fun _ h9 => h9) rfl dX7_worthAt_75 ?_
              refine lv_bipush (v := 27) hx hb dX7_worthAt_78 (by decide) ?_
              refine lv_iload_n hx hb dX7_worthAt_80 rfl (lv_at hl 5 rfl) ?_
              refine lv_iadd hx hb dX7_worthAt_81 ?_
              refine lv_topi (fun x_4634 ex_4634 => ?_)
              have vx_4634 : x_4634.toInt = p0.toInt + 27 := om_6c48219a (ti_add ex_4634 kc_27 rfl (om_edd3f7cf hk0.1) (om_54ed7536 hdp.1 hdp.2))
              refine va_iald hx hb hK hP 1 0 rfl rfl (ti_in vx_4634 (om_b4b48b7f hk0.1) (om_d6e519bf hdp.1 hdp.2)) dX7_worthAt_82 ?_
              refine lv_topi (fun x_4635 ex_4635 => ?_)
              have kx_4635 : (fM_r x_4634.toNatClampNeg).toInt = x_4635.toInt := by rw [ex_4635]
              have cx_4635 : (fM_r (27 + p0.toNatClampNeg)).toInt = x_4635.toInt := by rw [show 27 + p0.toNatClampNeg = x_4634.toNatClampNeg from by have q9 := ti_cl (x := x_4634) vx_4634 (om_b4b48b7f hk0.1); have q_p0 := ti_cl (x := p0) rfl (om_83bd56b0 hk0.1); omega]; exact kx_4635
              have sx_4635 := r_R.many x_4634.toNatClampNeg (by have q9 := ti_cl (x := x_4634) vx_4634 (om_b4b48b7f hk0.1); omega) (by have q9 := ti_cl (x := x_4634) vx_4634 (om_b4b48b7f hk0.1); omega)
              refine lv_icmp_ge (tgt := 179) hx hb dX7_worthAt_83 (by decide) (fun c_4636 => ?_) (fun c_4636 => ?_)
              · skip
                have gc_4636 := ti_le c_4636 rfl rfl
                refine lv_iload hx hb dX7_worthAt_179 (lv_at hl 2 rfl) ?_
                refine lv_iconst (v := 3) hx hb dX7_worthAt_181 (by decide) ?_
                refine lv_icmp_ne (tgt := 196) hx hb dX7_worthAt_182 (by decide) (fun c_4637 => ?_) (fun c_4637 => ?_)
                · skip
                  have gc_4637 := ti_ne c_4637 rfl kc_3
                  refine lv_iload hx hb dX7_worthAt_196 (lv_at hl 1 rfl) ?_
                  exact wq_i hx hb hr 0 ⟨trivial, (rval_fold (by omega) (by omega) hi1_n_4633 (by have q1 := ti_cl (x := z_4631) rfl (by omega); omega))⟩ (fun t ht hW => Bw.to hP hD hK ht hW) hS dX7_worthAt_198 hlocks
                · skip
                  have gc_4637 := ti_eq c_4637 rfl kc_3
                  exfalso; omega
              · skip
                have gc_4636 := ti_nle c_4636 rfl rfl
                refine lv_aload_n hx hb dX7_worthAt_86 rfl (lv_at hl 4 rfl) ?_
                refine lv_iconst (v := 4) hx hb dX7_worthAt_87 (by decide) ?_
                refine lv_iload_n hx hb dX7_worthAt_88 rfl (lv_at hl 5 rfl) ?_
                refine lv_imul hx hb dX7_worthAt_89 ?_
                refine lv_topi (fun x_4638 ex_4638 => ?_)
                have vx_4638 : x_4638.toInt = 4 * p0.toInt := ti_mul ex_4638 kc_4 rfl (om_56b74365 hk0.1) (om_1e4644e1 hdp.1 hdp.2)
                refine lv_iload hx hb dX7_worthAt_90 (lv_at hl 0 rfl) ?_
                refine lv_iadd hx hb dX7_worthAt_92 ?_
                refine lv_topi (fun x_4639 ex_4639 => ?_)
                have vx_4639 : x_4639.toInt = 4 * p0.toInt + z_4631.toInt := om_5d0caf0f (ti_add ex_4639 vx_4638 rfl (om_056a216f hk0.1 hi0_n_4633.1) (om_a7f11e2d hdp.1 hdp.2 mn_p0.2 cx_4635 gc_4636))
                refine va_iald hx hb hK hP 3 2 rfl rfl (ti_in vx_4639 (om_fc2812d4 hk0.1 hi0_n_4633.1) (om_9a551369 hk0.2 s_nodes.2 mn_p0.2 cx_4635 gc_4636)) dX7_worthAt_93 ?_
                refine lv_topi (fun x_4640 ex_4640 => ?_)
                have kx_4640 : (fQ x_4639.toNatClampNeg).toInt = x_4640.toInt := by rw [ex_4640]
                have cx_4640 : (fQ (4 * p0.toNatClampNeg + z_4631.toNatClampNeg)).toInt = x_4640.toInt := by rw [show 4 * p0.toNatClampNeg + z_4631.toNatClampNeg = x_4639.toNatClampNeg from by have q9 := ti_cl (x := x_4639) vx_4639 (om_fc2812d4 hk0.1 hi0_n_4633.1); have q_p0 := ti_cl (x := p0) rfl (om_83bd56b0 hk0.1); have q_z_4631 := ti_cl (x := z_4631) rfl (om_83bd56b0 hi0_n_4633.1); omega]; exact kx_4640
                have wx_4640 := r_Q.lt p0.toNatClampNeg (z_4631.toNatClampNeg) (by have q_1 := ti_cl (x := p0) rfl (om_83bd56b0 hk0.1); have q_2 := ti_cl (x := z_4631) rfl (om_83bd56b0 hi0_n_4633.1); omega) (by have q_1 := ti_cl (x := p0) rfl (om_83bd56b0 hk0.1); have q_2 := ti_cl (x := z_4631) rfl (om_83bd56b0 hi0_n_4633.1); omega)
                have wx_4640 : 0 ≤ x_4640.toInt ∧ x_4640.toInt < p0.toInt := by have q_1 := ti_cl (x := p0) rfl (om_83bd56b0 hk0.1); have q_2 := ti_cl (x := z_4631) rfl (om_83bd56b0 hi0_n_4633.1); have q_3 := cx_4640; rw [show 4 * p0.toNatClampNeg + (z_4631.toNatClampNeg) = 4 * p0.toNatClampNeg + z_4631.toNatClampNeg from by omega] at wx_4640; omega
                refine lv_istore (lv' := [(7, .int x_4640), (6, .int z_4631), (5, .int z_4632), (4, .int x_4587), (0, .ref oM), (1, .ref rQ), (2, .int p0), (3, .int p1)]) hx hb dX7_worthAt_94 hl (by decide) rfl (fun ls hl => ?_)
                refine lv_aload_n hx hb dX7_worthAt_96 rfl (lv_at hl 4 rfl) ?_
                refine lv_aload_n hx hb dX7_worthAt_97 rfl (lv_at hl 5 rfl) ?_
                refine lv_iload hx hb dX7_worthAt_98 (lv_at hl 0 rfl) ?_
                refine lv_iload_n hx hb dX7_worthAt_100 rfl (lv_at hl 7 rfl) ?_
                refine lv_iconst (v := 1) hx hb dX7_worthAt_101 (by decide) ?_
                refine lv_iadd hx hb dX7_worthAt_102 ?_
                refine lv_topi (fun x_4641 ex_4641 => ?_)
                have vx_4641 : x_4641.toInt = p1.toInt + 1 := ti_add ex_4641 rfl kc_1 (om_4e4fce7e hdp.1) (om_994f3184 hk0.1 hdp.2)
                have hFc := va_freeI hD hS hA
                refine va_calli (va_runV (As := [.ref rQ, .int x_4640, .int x_4641]) (rest := []) ⟨hx, hb, hml, hown, hts⟩ (ih9 _ oM iM_thrown rM_tape iM_taped iM_size iM_at iM_end iM_token iM_whole iM_nameSize iM_fault iM_place iM_trouble rM_letters iM_failed iM_hasCourt rM_r fM_r kM_r rM_fresh rM_told fM_told kM_told rM_read rM_st rM_undone rM_kept iM_undos iM_images rM_fresher iM_fresherSize iM_scale iM_night rM_heardRow rM_cutRow iM_breaths iM_cutMany iM_allBreaths rM_trial rM_words iM_fewestBreaths iM_orderMany iM_orderSum iM_leastOrder rM_often iM_setMany iM_someOf iM_allOf iM_allWeight iM_enoughWeight iM_worthSum iM_firstRest iM_leastDrawn rQ fQ kQ x_4640 x_4641 b_iM_taped b_iM_size b_iM_end b_iM_failed b_iM_hasCourt b_iM_undos b_iM_images b_iM_scale b_iM_breaths b_iM_cutMany (by assumption) (by assumption) (by assumption) (by assumption) ⟨(om_83bd56b0 wx_4640.1), (om_90a71968 hk0.2 wx_4640.2)⟩ (om_bd90d29b hnt) ⟨(om_83b90de5 hdp.1 vx_4641), (om_a06ed41a hdp.2 wx_4640.2 vx_4641)⟩ (by first | assumption | (have q0 := kc_0; have q1 := kc_1; first | exact ⟨by omega, by omega⟩ | omega) | decide | (intro h; exact absurd h (by decide)))) (cwV 3 hts (wd_V wd_649 wd_650 wd_651 wd_5 (wd_c wd_652)) rfl rfl rfl (by decide +kernel) ⟨(show (1 + n9) + 1 ≤ 1 + (n9 + 1) by omega), (show 8 + (9 + 11) + (10 + 28 * n9) ≤ 10 + 28 * (n9 + 1) by omega)⟩) ⟨Pw.fb, recvX7 hK hP (q0 := 0) rfl, fun U hU hW => Pw.to hP hD hK hE hS hFc hU hW⟩ rfl rfl hl.1 rfl (lv_room (Nat.le_of_ble_eq_true rfl)) dX7_worthAt_103 ⟨Nat.le_of_ble_eq_true rfl, Nat.le_of_ble_eq_true rfl⟩) hS (fun q _ h => hFc q h) hFc (fun r u t H locs ht hvm hw hB hz1 hk1 hS => ?_)
                obtain ⟨hP, hD⟩ := Bw.goA (ws' := [(oc7 oM iM_thrown rM_tape iM_taped iM_size iM_at iM_end iM_token iM_whole iM_nameSize iM_fault iM_place iM_trouble rM_letters iM_failed iM_hasCourt rM_r rM_fresh rM_told rM_read rM_st rM_undone rM_kept iM_undos iM_images rM_fresher iM_fresherSize iM_scale iM_night rM_heardRow rM_cutRow iM_breaths iM_cutMany iM_allBreaths rM_trial rM_words iM_fewestBreaths iM_orderMany iM_orderSum iM_leastOrder rM_often iM_setMany iM_someOf iM_allOf iM_allWeight iM_enoughWeight iM_worthSum iM_firstRest iM_leastDrawn), (arI rM_r kM_r 287 fM_r), (arI rM_told kM_told 90 fM_told), (arI rQ kQ 90 fQ)]) hB rfl ht hFc rfl
                clear hz1 hk1 hvm ht hB
                obtain ⟨x_4642, rfl⟩ : ∃ z, z = r := ⟨_, rfl⟩
                have lx_4642 := hw.2
                refine lv_istore (lv' := [(8, .int x_4642), (7, .int x_4640), (6, .int z_4631), (5, .int z_4632), (4, .int x_4587), (0, .ref oM), (1, .ref rQ), (2, .int p0), (3, .int p1)]) hx hb dX7_worthAt_106 hl (by decide) rfl (fun ls hl => ?_)
                refine lv_iload hx hb dX7_worthAt_108 (lv_at hl 4 rfl) ?_
                refine lv_iconst (v := 1) hx hb dX7_worthAt_110 (by decide) ?_
                refine lv_icmp_ne (tgt := 133) hx hb dX7_worthAt_111 (by decide) (fun c_4643 => ?_) (fun c_4643 => ?_)
                · skip
                  have gc_4643 := ti_ne c_4643 rfl kc_1
                  refine lv_iload hx hb dX7_worthAt_133 (lv_at hl 4 rfl) ?_
                  refine lv_iconst (v := 2) hx hb dX7_worthAt_135 (by decide) ?_
                  refine lv_icmp_ne (tgt := 158) hx hb dX7_worthAt_136 (by decide) (fun c_4644 => ?_) (fun c_4644 => ?_)
                  · skip
                    have gc_4644 := ti_ne c_4644 rfl kc_2
                    exfalso; omega
                  · skip
                    have gc_4644 := ti_eq c_4644 rfl kc_2
                    refine lv_iload hx hb dX7_worthAt_139 (lv_at hl 0 rfl) ?_
                    refine lv_iload hx hb dX7_worthAt_141 (lv_at hl 3 rfl) ?_
                    refine lv_icmp_ge (tgt := 151) hx hb dX7_worthAt_143 (by decide) (fun c_4645 => ?_) (fun c_4645 => ?_)
                    · skip
                      have gc_4645 := ti_le c_4645 rfl rfl
                      refine lv_iload hx hb dX7_worthAt_151 (lv_at hl 3 rfl) ?_
                      refine lv_istore (lv' := [(5, .int z_4632), (8, .int x_4642), (7, .int x_4640), (6, .int z_4631), (4, .int x_4587), (0, .ref oM), (1, .ref rQ), (2, .int p0), (3, .int p1)]) hx hb dX7_worthAt_153 hl (by decide) rfl (fun ls hl => ?_)
                      refine lv_goto (tgt := 173) hx hb dX7_worthAt_155 (by decide) ?_
                      obtain ⟨x_4646, ex_4646⟩ : ∃ z : Int32, z = z_4631 + Int32.ofInt 1 := ⟨_, rfl⟩
                      have vx_4646 : x_4646.toInt = z_4631.toInt + 1 := ti_add (y := 1) ex_4646 rfl kc_1 (om_4e4fce7e hi0_n_4633.1) (om_813b24f4 mn_p0.2 cx_4635 gc_4636)
                      refine lv_iinc (v := x_4646) (lv' := [(6, .int x_4646), (5, .int z_4632), (8, .int x_4642), (7, .int x_4640), (4, .int x_4587), (0, .ref oM), (1, .ref rQ), (2, .int p0), (3, .int p1)]) hx hb dX7_worthAt_173 hl (k := 3) rfl ex_4646.symm (by decide) rfl (fun ls hl => ?_)
                      refine lv_goto (tgt := 72) hx hb dX7_worthAt_176 (by decide) ?_
                      exact ih_n_4633 x_4646 z_4632 _ _ _  ⟨(om_83b90de5 hi0_n_4633.1 vx_4646), (om_1ad1f819 cx_4635 gc_4636 vx_4646)⟩ (fold_step (v := x_4642) (part := x_4640) hi1_n_4633 (by have q := cx_4640; rw [show 4 * p0.toNatClampNeg + z_4631.toNatClampNeg = 4 * p0.toNatClampNeg + z_4631.toNatClampNeg from by omega]; exact q) lx_4642 (by first | exact step_k0 (by omega) (by omega) | exact step_q0 (by omega) (by omega)) (by have q1 := ti_cl (x := x_4646) vx_4646 (om_9548a8fd hi0_n_4633.1); have q2 := ti_cl (x := z_4631) rfl (om_83bd56b0 hi0_n_4633.1); omega)) (ms_lt hm_n_4633 (om_ed22490e vx_4646) (om_e4be4046 mn_p0.2 cx_4635 gc_4636)) hP hD hS (lv_sub hl [0, 1, 4, 5, 6, 7, 8] rfl)
                    · skip
                      have gc_4645 := ti_nle c_4645 rfl rfl
                      refine lv_iload hx hb dX7_worthAt_146 (lv_at hl 0 rfl) ?_
                      refine lv_goto (tgt := 153) hx hb dX7_worthAt_148 (by decide) ?_
                      refine lv_istore (lv' := [(5, .int x_4642), (8, .int x_4642), (7, .int x_4640), (6, .int z_4631), (4, .int x_4587), (0, .ref oM), (1, .ref rQ), (2, .int p0), (3, .int p1)]) hx hb dX7_worthAt_153 hl (by decide) rfl (fun ls hl => ?_)
                      refine lv_goto (tgt := 173) hx hb dX7_worthAt_155 (by decide) ?_
                      obtain ⟨x_4647, ex_4647⟩ : ∃ z : Int32, z = z_4631 + Int32.ofInt 1 := ⟨_, rfl⟩
                      have vx_4647 : x_4647.toInt = z_4631.toInt + 1 := ti_add (y := 1) ex_4647 rfl kc_1 (om_4e4fce7e hi0_n_4633.1) (om_813b24f4 mn_p0.2 cx_4635 gc_4636)
                      refine lv_iinc (v := x_4647) (lv' := [(6, .int x_4647), (5, .int x_4642), (8, .int x_4642), (7, .int x_4640), (4, .int x_4587), (0, .ref oM), (1, .ref rQ), (2, .int p0), (3, .int p1)]) hx hb dX7_worthAt_173 hl (k := 3) rfl ex_4647.symm (by decide) rfl (fun ls hl => ?_)
                      refine lv_goto (tgt := 72) hx hb dX7_worthAt_176 (by decide) ?_
                      exact ih_n_4633 x_4647 x_4642 _ _ _  ⟨(om_83b90de5 hi0_n_4633.1 vx_4647), (om_1ad1f819 cx_4635 gc_4636 vx_4647)⟩ (fold_step (v := x_4642) (part := x_4640) hi1_n_4633 (by have q := cx_4640; rw [show 4 * p0.toNatClampNeg + z_4631.toNatClampNeg = 4 * p0.toNatClampNeg + z_4631.toNatClampNeg from by omega]; exact q) lx_4642 (by first | exact step_k1 (by omega) (by omega) | exact step_q1 (by omega) (by omega)) (by have q1 := ti_cl (x := x_4647) vx_4647 (om_9548a8fd hi0_n_4633.1); have q2 := ti_cl (x := z_4631) rfl (om_83bd56b0 hi0_n_4633.1); omega)) (ms_lt hm_n_4633 (om_ed22490e vx_4647) (om_e4be4046 mn_p0.2 cx_4635 gc_4636)) hP hD hS (lv_sub hl [0, 1, 4, 5, 6, 7, 8] rfl)
                · skip
                  have gc_4643 := ti_eq c_4643 rfl kc_1
                  exfalso; omega
          exact key_n_4633 (((4 - (0 : Int32).toInt).toNat) + 1) 0 100000000 _ _ _  ⟨(om_b1de7dbe kc_0), (om_2dfe280d mn_p0.1 kc_0)⟩ (by first | (have q0 := kc_0; have q1 := kc_1; have q2 := kc_100000000; omega) | decide | assumption | (show _ = startV _; rw [show (fM_r (9 + p0.toNatClampNeg)).toInt = 1 from by omega]; rfl) | (show _ = startV _; rw [show (fM_r (9 + p0.toNatClampNeg)).toInt = 2 from by omega]; rfl) | (show _ = startV _; rw [show (fM_r (9 + p0.toNatClampNeg)).toInt = 3 from by omega]; rfl)) (Nat.lt_add_one _) hP hD hS hl
      · skip
        have gc_4589 := ti_eq c_4589 rfl rfl
        exfalso; omega
    · skip
      have gc_4588 := ti_eq c_4588 rfl kc_0
      refine lv_aload_n hx hb dX7_worthAt_16 rfl (lv_at hl 2 rfl) ?_
      refine lv_bipush (v := 72) hx hb dX7_worthAt_17 (by decide) ?_
      refine lv_iload_n hx hb dX7_worthAt_19 rfl (lv_at hl 3 rfl) ?_
      refine lv_iadd hx hb dX7_worthAt_20 ?_
      refine lv_topi (fun x_4648 ex_4648 => ?_)
      have vx_4648 : x_4648.toInt = p0.toInt + 72 := om_2d0716db (ti_add ex_4648 kc_72 rfl (om_7e97233d hk0.1) (om_a905bcc5 hdp.1 hdp.2))
      refine va_iald hx hb hK hP 3 2 rfl rfl (ti_in vx_4648 (om_2ad8b1ab hk0.1) (om_311d1202 hk0.2 s_nodes.2)) dX7_worthAt_21 ?_
      refine lv_topi (fun x_4649 ex_4649 => ?_)
      have kx_4649 : (fQ x_4648.toNatClampNeg).toInt = x_4649.toInt := by rw [ex_4649]
      have cx_4649 : (fQ (72 + p0.toNatClampNeg)).toInt = x_4649.toInt := by rw [show 72 + p0.toNatClampNeg = x_4648.toNatClampNeg from by have q9 := ti_cl (x := x_4648) vx_4648 (om_2ad8b1ab hk0.1); have q_p0 := ti_cl (x := p0) rfl (om_83bd56b0 hk0.1); omega]; exact kx_4649
      refine lv_aload_n hx hb dX7_worthAt_22 rfl (lv_at hl 1 rfl) ?_
      refine va_get (D := (dC, dI)) (ci := 7) (v := .int iM_scale) (C := RX7) (T := TX7) (N := 48) hx hb hts inX7 hown hK hP 0 rfl rfl 26 (by decide) (hts _ wd_163) (fun _ h9 => h9) rfl dX7_worthAt_23 ?_
      refine lv_imul hx hb dX7_worthAt_26 ?_
      refine lv_topi (fun x_4650 ex_4650 => ?_)
      exact wq_i hx hb hr 0 ⟨trivial, (rval_word (z := x_4649) (by omega) (by have q := cx_4649; rw [show 72 + p0.toNatClampNeg = 72 + p0.toNatClampNeg from by omega]; exact q) ex_4650)⟩ (fun t ht hW => Bw.to hP hD hK ht hW) hS dX7_worthAt_27 hlocks
theorem tX7_worthAt_x (l : Launch) (dC : Nat → ClassId) (dI : Nat → Nat → Nat) (sz : Nat) (oM : Nat) (iM_thrown : Int32) (rM_tape : Nat) (iM_taped : Int32) (iM_size : Int32) (iM_at : Int32) (iM_end : Int32) (iM_token : Int32) (iM_whole : Int32) (iM_nameSize : Int32) (iM_fault : Int32) (iM_place : Int32) (iM_trouble : Int32) (rM_letters : Nat) (iM_failed : Int32) (iM_hasCourt : Int32) (rM_r : Nat) (fM_r : Nat → Int32) (kM_r : ClassId) (rM_fresh : Nat) (rM_told : Nat) (fM_told : Nat → Int32) (kM_told : ClassId) (rM_read : Nat) (rM_st : Nat) (rM_undone : Nat) (rM_kept : Nat) (iM_undos : Int32) (iM_images : Int32) (rM_fresher : Nat) (iM_fresherSize : Int32) (iM_scale : Int32) (iM_night : Int32) (rM_heardRow : Nat) (rM_cutRow : Nat) (iM_breaths : Int32) (iM_cutMany : Int32) (iM_allBreaths : Int32) (rM_trial : Nat) (rM_words : Nat) (iM_fewestBreaths : Int32) (iM_orderMany : Int32) (iM_orderSum : Int32) (iM_leastOrder : Int32) (rM_often : Nat) (iM_setMany : Int32) (iM_someOf : Int32) (iM_allOf : Int32) (iM_allWeight : Int64) (iM_enoughWeight : Int64) (iM_worthSum : Int64) (iM_firstRest : Int32) (iM_leastDrawn : Int32) (rQ : Nat) (fQ : Nat → Int32) (kQ : ClassId) (p0 : Int32) (p1 : Int32) (b_iM_taped : 0 ≤ iM_taped.toInt ∧ iM_taped.toInt ≤ 900) (b_iM_size : 0 ≤ iM_size.toInt ∧ iM_size.toInt ≤ 900) (b_iM_end : 0 ≤ iM_end.toInt ∧ iM_end.toInt ≤ 900) (b_iM_failed : 0 ≤ iM_failed.toInt ∧ iM_failed.toInt ≤ 1) (b_iM_hasCourt : 0 ≤ iM_hasCourt.toInt ∧ iM_hasCourt.toInt ≤ 1) (b_iM_undos : 0 ≤ iM_undos.toInt ∧ iM_undos.toInt ≤ 16) (b_iM_images : 0 ≤ iM_images.toInt ∧ iM_images.toInt ≤ 3) (b_iM_scale : 1 ≤ iM_scale.toInt ∧ iM_scale.toInt ≤ 1296) (b_iM_breaths : 0 ≤ iM_breaths.toInt ∧ iM_breaths.toInt ≤ 399) (b_iM_cutMany : 0 ≤ iM_cutMany.toInt ∧ iM_cutMany.toInt ≤ 399) (r_R : ROk fM_r) (r_C : iM_hasCourt.toInt ≤ 0 ∨ (1 ≤ (fM_r 1).toInt ∧ 0 ≤ (fM_r 6).toInt ∧ (fM_r 6).toInt < (fM_r 1).toInt)) (r_told : RowOk fM_r fM_told) (r_Q : RowOk fM_r fQ) (hk0 : 0 ≤ p0.toInt ∧ p0.toInt < (fM_r 1).toInt) (hnt : iM_night.toInt = -1) (hdp : 0 ≤ p1.toInt ∧ p1.toInt + p0.toInt ≤ 100) : Met l yX7_worthAt (Cond.code yX7_worthAt cX7_worthAt 9 (some .int) :: wG) ({ frames := 19, cells := 0, slots := 0, locals := 514 }) (va_Pc [.ref oM, .ref rQ, .int p0, .int p1] (Pw dC dI sz [(oc7 oM iM_thrown rM_tape iM_taped iM_size iM_at iM_end iM_token iM_whole iM_nameSize iM_fault iM_place iM_trouble rM_letters iM_failed iM_hasCourt rM_r rM_fresh rM_told rM_read rM_st rM_undone rM_kept iM_undos iM_images rM_fresher iM_fresherSize iM_scale iM_night rM_heardRow rM_cutRow iM_breaths iM_cutMany iM_allBreaths rM_trial rM_words iM_fewestBreaths iM_orderMany iM_orderSum iM_leastOrder rM_often iM_setMany iM_someOf iM_allOf iM_allWeight iM_enoughWeight iM_worthSum iM_firstRest iM_leastDrawn), (arI rM_r kM_r 287 fM_r), (arI rM_told kM_told 90 fM_told), (arI rQ kQ 90 fQ)] [(kM_r, .int), (kM_told, .int), (kQ, .int)])) (va_Qi (fun (r : Int32) (_ : Nat) => True ∧ (r = rval fM_r fM_told fQ iM_scale 18 p0.toNatClampNeg)) (fun (_ : Nat) (t : State) => Bw dC dI (va_A [(oc7 oM iM_thrown rM_tape iM_taped iM_size iM_at iM_end iM_token iM_whole iM_nameSize iM_fault iM_place iM_trouble rM_letters iM_failed iM_hasCourt rM_r rM_fresh rM_told rM_read rM_st rM_undone rM_kept iM_undos iM_images rM_fresher iM_fresherSize iM_scale iM_night rM_heardRow rM_cutRow iM_breaths iM_cutMany iM_allBreaths rM_trial rM_words iM_fewestBreaths iM_orderMany iM_orderSum iM_leastOrder rM_often iM_setMany iM_someOf iM_allOf iM_allWeight iM_enoughWeight iM_worthSum iM_firstRest iM_leastDrawn), (arI rM_r kM_r 287 fM_r), (arI rM_told kM_told 90 fM_told), (arI rQ kQ 90 fQ)] sz) [(oc7 oM iM_thrown rM_tape iM_taped iM_size iM_at iM_end iM_token iM_whole iM_nameSize iM_fault iM_place iM_trouble rM_letters iM_failed iM_hasCourt rM_r rM_fresh rM_told rM_read rM_st rM_undone rM_kept iM_undos iM_images rM_fresher iM_fresherSize iM_scale iM_night rM_heardRow rM_cutRow iM_breaths iM_cutMany iM_allBreaths rM_trial rM_words iM_fewestBreaths iM_orderMany iM_orderSum iM_leastOrder rM_often iM_setMany iM_someOf iM_allOf iM_allWeight iM_enoughWeight iM_worthSum iM_firstRest iM_leastDrawn), (arI rM_r kM_r 287 fM_r), (arI rM_told kM_told 90 fM_told), (arI rQ kQ 90 fQ)] [(kM_r, .int), (kM_told, .int), (kQ, .int)] t) (va_A [(oc7 oM iM_thrown rM_tape iM_taped iM_size iM_at iM_end iM_token iM_whole iM_nameSize iM_fault iM_place iM_trouble rM_letters iM_failed iM_hasCourt rM_r rM_fresh rM_told rM_read rM_st rM_undone rM_kept iM_undos iM_images rM_fresher iM_fresherSize iM_scale iM_night rM_heardRow rM_cutRow iM_breaths iM_cutMany iM_allBreaths rM_trial rM_words iM_fewestBreaths iM_orderMany iM_orderSum iM_leastOrder rM_often iM_setMany iM_someOf iM_allOf iM_allWeight iM_enoughWeight iM_worthSum iM_firstRest iM_leastDrawn), (arI rM_r kM_r 287 fM_r), (arI rM_told kM_told 90 fM_told), (arI rQ kQ 90 fQ)] sz)) 0 0 (va_A [(oc7 oM iM_thrown rM_tape iM_taped iM_size iM_at iM_end iM_token iM_whole iM_nameSize iM_fault iM_place iM_trouble rM_letters iM_failed iM_hasCourt rM_r rM_fresh rM_told rM_read rM_st rM_undone rM_kept iM_undos iM_images rM_fresher iM_fresherSize iM_scale iM_night rM_heardRow rM_cutRow iM_breaths iM_cutMany iM_allBreaths rM_trial rM_words iM_fewestBreaths iM_orderMany iM_orderSum iM_leastOrder rM_often iM_setMany iM_someOf iM_allOf iM_allWeight iM_enoughWeight iM_worthSum iM_firstRest iM_leastDrawn), (arI rM_r kM_r 287 fM_r), (arI rM_told kM_told 90 fM_told), (arI rQ kQ 90 fQ)] sz) :=
  tX7_worthAt_x_n l dC dI 18 sz oM iM_thrown rM_tape iM_taped iM_size iM_at iM_end iM_token iM_whole iM_nameSize iM_fault iM_place iM_trouble rM_letters iM_failed iM_hasCourt rM_r fM_r kM_r rM_fresh rM_told fM_told kM_told rM_read rM_st rM_undone rM_kept iM_undos iM_images rM_fresher iM_fresherSize iM_scale iM_night rM_heardRow rM_cutRow iM_breaths iM_cutMany iM_allBreaths rM_trial rM_words iM_fewestBreaths iM_orderMany iM_orderSum iM_leastOrder rM_often iM_setMany iM_someOf iM_allOf iM_allWeight iM_enoughWeight iM_worthSum iM_firstRest iM_leastDrawn rQ fQ kQ p0 p1 b_iM_taped b_iM_size b_iM_end b_iM_failed b_iM_hasCourt b_iM_undos b_iM_images b_iM_scale b_iM_breaths b_iM_cutMany r_R r_C r_told r_Q hk0 hnt hdp (by have q := r_R.nodes; omega)
set_option maxHeartbeats 4000000 in
set_option maxRecDepth 100000 in
theorem tX7_worthOf_x (l : Launch) (dC : Nat → ClassId) (dI : Nat → Nat → Nat) (sz : Nat) (oM : Nat) (iM_thrown : Int32) (rM_tape : Nat) (iM_taped : Int32) (iM_size : Int32) (iM_at : Int32) (iM_end : Int32) (iM_token : Int32) (iM_whole : Int32) (iM_nameSize : Int32) (iM_fault : Int32) (iM_place : Int32) (iM_trouble : Int32) (rM_letters : Nat) (iM_failed : Int32) (iM_hasCourt : Int32) (rM_r : Nat) (fM_r : Nat → Int32) (kM_r : ClassId) (rM_fresh : Nat) (rM_told : Nat) (fM_told : Nat → Int32) (kM_told : ClassId) (rM_read : Nat) (rM_st : Nat) (rM_undone : Nat) (rM_kept : Nat) (iM_undos : Int32) (iM_images : Int32) (rM_fresher : Nat) (iM_fresherSize : Int32) (iM_scale : Int32) (iM_night : Int32) (rM_heardRow : Nat) (rM_cutRow : Nat) (iM_breaths : Int32) (iM_cutMany : Int32) (iM_allBreaths : Int32) (rM_trial : Nat) (rM_words : Nat) (iM_fewestBreaths : Int32) (iM_orderMany : Int32) (iM_orderSum : Int32) (iM_leastOrder : Int32) (rM_often : Nat) (iM_setMany : Int32) (iM_someOf : Int32) (iM_allOf : Int32) (iM_allWeight : Int64) (iM_enoughWeight : Int64) (iM_worthSum : Int64) (iM_firstRest : Int32) (iM_leastDrawn : Int32) (rQ : Nat) (fQ : Nat → Int32) (kQ : ClassId) (p0 : Int32) (b_iM_taped : 0 ≤ iM_taped.toInt ∧ iM_taped.toInt ≤ 900) (b_iM_size : 0 ≤ iM_size.toInt ∧ iM_size.toInt ≤ 900) (b_iM_end : 0 ≤ iM_end.toInt ∧ iM_end.toInt ≤ 900) (b_iM_failed : 0 ≤ iM_failed.toInt ∧ iM_failed.toInt ≤ 1) (b_iM_hasCourt : 0 ≤ iM_hasCourt.toInt ∧ iM_hasCourt.toInt ≤ 1) (b_iM_undos : 0 ≤ iM_undos.toInt ∧ iM_undos.toInt ≤ 16) (b_iM_images : 0 ≤ iM_images.toInt ∧ iM_images.toInt ≤ 3) (b_iM_scale : 1 ≤ iM_scale.toInt ∧ iM_scale.toInt ≤ 1296) (b_iM_breaths : 0 ≤ iM_breaths.toInt ∧ iM_breaths.toInt ≤ 399) (b_iM_cutMany : 0 ≤ iM_cutMany.toInt ∧ iM_cutMany.toInt ≤ 399) (r_R : ROk fM_r) (r_C : iM_hasCourt.toInt ≤ 0 ∨ (1 ≤ (fM_r 1).toInt ∧ 0 ≤ (fM_r 6).toInt ∧ (fM_r 6).toInt < (fM_r 1).toInt)) (r_told : RowOk fM_r fM_told) (r_Q : RowOk fM_r fQ) (hk0 : 0 ≤ p0.toInt ∧ p0.toInt < (fM_r 1).toInt) (hnt : iM_night.toInt = -1) : Met l yX7_worthOf (Cond.code yX7_worthOf cX7_worthOf 3 (some .int) :: wG) ({ frames := 20, cells := 0, slots := 0, locals := 542 }) (va_Pc [.ref oM, .ref rQ, .int p0] (Pw dC dI sz [(oc7 oM iM_thrown rM_tape iM_taped iM_size iM_at iM_end iM_token iM_whole iM_nameSize iM_fault iM_place iM_trouble rM_letters iM_failed iM_hasCourt rM_r rM_fresh rM_told rM_read rM_st rM_undone rM_kept iM_undos iM_images rM_fresher iM_fresherSize iM_scale iM_night rM_heardRow rM_cutRow iM_breaths iM_cutMany iM_allBreaths rM_trial rM_words iM_fewestBreaths iM_orderMany iM_orderSum iM_leastOrder rM_often iM_setMany iM_someOf iM_allOf iM_allWeight iM_enoughWeight iM_worthSum iM_firstRest iM_leastDrawn), (arI rM_r kM_r 287 fM_r), (arI rM_told kM_told 90 fM_told), (arI rQ kQ 90 fQ)] [(kM_r, .int), (kM_told, .int), (kQ, .int)])) (va_Qi (fun (r : Int32) (_ : Nat) => True ∧ (r = rval fM_r fM_told fQ iM_scale 18 p0.toNatClampNeg)) (fun (_ : Nat) (t : State) => Bw dC dI (va_A [(oc7 oM iM_thrown rM_tape iM_taped iM_size iM_at iM_end iM_token iM_whole iM_nameSize iM_fault iM_place iM_trouble rM_letters iM_failed iM_hasCourt rM_r rM_fresh rM_told rM_read rM_st rM_undone rM_kept iM_undos iM_images rM_fresher iM_fresherSize iM_scale iM_night rM_heardRow rM_cutRow iM_breaths iM_cutMany iM_allBreaths rM_trial rM_words iM_fewestBreaths iM_orderMany iM_orderSum iM_leastOrder rM_often iM_setMany iM_someOf iM_allOf iM_allWeight iM_enoughWeight iM_worthSum iM_firstRest iM_leastDrawn), (arI rM_r kM_r 287 fM_r), (arI rM_told kM_told 90 fM_told), (arI rQ kQ 90 fQ)] sz) [(oc7 oM iM_thrown rM_tape iM_taped iM_size iM_at iM_end iM_token iM_whole iM_nameSize iM_fault iM_place iM_trouble rM_letters iM_failed iM_hasCourt rM_r rM_fresh rM_told rM_read rM_st rM_undone rM_kept iM_undos iM_images rM_fresher iM_fresherSize iM_scale iM_night rM_heardRow rM_cutRow iM_breaths iM_cutMany iM_allBreaths rM_trial rM_words iM_fewestBreaths iM_orderMany iM_orderSum iM_leastOrder rM_often iM_setMany iM_someOf iM_allOf iM_allWeight iM_enoughWeight iM_worthSum iM_firstRest iM_leastDrawn), (arI rM_r kM_r 287 fM_r), (arI rM_told kM_told 90 fM_told), (arI rQ kQ 90 fQ)] [(kM_r, .int), (kM_told, .int), (kQ, .int)] t) (va_A [(oc7 oM iM_thrown rM_tape iM_taped iM_size iM_at iM_end iM_token iM_whole iM_nameSize iM_fault iM_place iM_trouble rM_letters iM_failed iM_hasCourt rM_r rM_fresh rM_told rM_read rM_st rM_undone rM_kept iM_undos iM_images rM_fresher iM_fresherSize iM_scale iM_night rM_heardRow rM_cutRow iM_breaths iM_cutMany iM_allBreaths rM_trial rM_words iM_fewestBreaths iM_orderMany iM_orderSum iM_leastOrder rM_often iM_setMany iM_someOf iM_allOf iM_allWeight iM_enoughWeight iM_worthSum iM_firstRest iM_leastDrawn), (arI rM_r kM_r 287 fM_r), (arI rM_told kM_told 90 fM_told), (arI rQ kQ 90 fQ)] sz)) 0 0 (va_A [(oc7 oM iM_thrown rM_tape iM_taped iM_size iM_at iM_end iM_token iM_whole iM_nameSize iM_fault iM_place iM_trouble rM_letters iM_failed iM_hasCourt rM_r rM_fresh rM_told rM_read rM_st rM_undone rM_kept iM_undos iM_images rM_fresher iM_fresherSize iM_scale iM_night rM_heardRow rM_cutRow iM_breaths iM_cutMany iM_allBreaths rM_trial rM_words iM_fewestBreaths iM_orderMany iM_orderSum iM_leastOrder rM_often iM_setMany iM_someOf iM_allOf iM_allWeight iM_enoughWeight iM_worthSum iM_firstRest iM_leastDrawn), (arI rM_r kM_r 287 fM_r), (arI rM_told kM_told 90 fM_told), (arI rQ kQ 90 fQ)] sz) := by
  refine Met.ofW (cc := cX7_worthOf) (maxL := 3) (ret := (some .int)) pnX7 rfl ?_
  intro p e s m args below meth c s₁ B hml hv
  obtain ⟨rfl, hsz, hP, hK, hD0, hE⟩ := hv
  have hx := B.exec
  have hb := B.bytes
  have hr := B.returns
  have hts : ∀ w ∈ wG, w.before ([.ref oM, .ref rQ, .int p0] : List Value).toArray s = true := fun w h => atoms_spec (ws := Cond.code yX7_worthOf cX7_worthOf 3 (some .int) :: wG) B.pre w (List.mem_cons_of_mem _ h)
  have hown : s.vm.findClass RX7 = some m.cls := own_of B.named rfl
  have hlocks := B.notSynchronized
  subst hsz
  have hD := hD0.self (sz := s.heap.size)
  generalize hAe : va_A [(oc7 oM iM_thrown rM_tape iM_taped iM_size iM_at iM_end iM_token iM_whole iM_nameSize iM_fault iM_place iM_trouble rM_letters iM_failed iM_hasCourt rM_r rM_fresh rM_told rM_read rM_st rM_undone rM_kept iM_undos iM_images rM_fresher iM_fresherSize iM_scale iM_night rM_heardRow rM_cutRow iM_breaths iM_cutMany iM_allBreaths rM_trial rM_words iM_fewestBreaths iM_orderMany iM_orderSum iM_leastOrder rM_often iM_setMany iM_someOf iM_allOf iM_allWeight iM_enoughWeight iM_worthSum iM_firstRest iM_leastDrawn), (arI rM_r kM_r 287 fM_r), (arI rM_told kM_told 90 fM_told), (arI rQ kQ 90 fQ)] s.heap.size = A at hD hE ⊢
  have hA : ∀ q : Nat, s.heap.size ≤ q → A q := fun q h => by rw [← hAe]; exact Or.inr h
  have hS : va_S A s.heap s.heap [] := va_S.rf
  have hl := lv_entry ([.ref oM, .ref rQ, .int p0]) (n := 3) (Nat.le_of_ble_eq_true rfl)
  rw [lg_entry_eq]
  generalize (lg_sl ([.ref oM, .ref rQ, .int p0]) ++ List.replicate (3 - (lg_sl ([.ref oM, .ref rQ, .int p0])).length) Slot.unset).toArray = ls at hl ⊢
  have hl : lv_has ls 3 [(0, .ref oM), (1, .ref rQ), (2, .int p0)] := hl
  have s_slips := r_R.slips
  have s_nodes := r_R.nodes
  have s_uns := r_R.uns
  have q_p0 := ti_cl (x := p0) rfl (om_83bd56b0 hk0.1)
  have mn_p0 := r_R.many (27 + p0.toNatClampNeg) (by omega) (by omega)
  have kn_p0 := r_R.kind (9 + p0.toNatClampNeg) (by omega) (by omega)
  have in_p0 := r_R.inner p0.toNatClampNeg (by omega)
  refine lv_aload_n hx hb dX7_worthOf_0 rfl (lv_at hl 0 rfl) ?_
  refine lv_aload_n hx hb dX7_worthOf_1 rfl (lv_at hl 1 rfl) ?_
  refine lv_iload_n hx hb dX7_worthOf_2 rfl (lv_at hl 2 rfl) ?_
  refine lv_iconst (v := 0) hx hb dX7_worthOf_3 (by decide) ?_
  have hFc := va_freeI hD hS hA
  refine va_calli (va_runV (As := [.ref rQ, .int p0, .int 0]) (rest := []) ⟨hx, hb, hml, hown, hts⟩ (tX7_worthAt_x l dC dI _ oM iM_thrown rM_tape iM_taped iM_size iM_at iM_end iM_token iM_whole iM_nameSize iM_fault iM_place iM_trouble rM_letters iM_failed iM_hasCourt rM_r fM_r kM_r rM_fresh rM_told fM_told kM_told rM_read rM_st rM_undone rM_kept iM_undos iM_images rM_fresher iM_fresherSize iM_scale iM_night rM_heardRow rM_cutRow iM_breaths iM_cutMany iM_allBreaths rM_trial rM_words iM_fewestBreaths iM_orderMany iM_orderSum iM_leastOrder rM_often iM_setMany iM_someOf iM_allOf iM_allWeight iM_enoughWeight iM_worthSum iM_firstRest iM_leastDrawn rQ fQ kQ p0 0 b_iM_taped b_iM_size b_iM_end b_iM_failed b_iM_hasCourt b_iM_undos b_iM_images b_iM_scale b_iM_breaths b_iM_cutMany (by assumption) (by assumption) (by assumption) (by assumption) ⟨(om_83bd56b0 hk0.1), (om_c6249b78 hk0.2)⟩ (om_bd90d29b hnt) ⟨(om_b1de7dbe kc_0), (om_999e7d75 hk0.2 s_nodes.2 kc_0)⟩) (cwV 3 hts (wd_V wd_649 wd_650 wd_651 wd_5 (wd_c wd_652)) rfl rfl rfl dv_yX7_worthAt_3 ⟨Nat.le_of_ble_eq_true rfl, Nat.le_of_ble_eq_true rfl⟩) ⟨Pw.fb, recvX7 hK hP (q0 := 0) rfl, fun U hU hW => Pw.to hP hD hK hE hS hFc hU hW⟩ rfl rfl hl.1 rfl (lv_room (Nat.le_of_ble_eq_true rfl)) dX7_worthOf_4 ⟨Nat.le_of_ble_eq_true rfl, Nat.le_of_ble_eq_true rfl⟩) hS (fun q _ h => hFc q h) hFc (fun r u t H locs ht hvm hw hB hz1 hk1 hS => ?_)
  obtain ⟨hP, hD⟩ := Bw.goA (ws' := [(oc7 oM iM_thrown rM_tape iM_taped iM_size iM_at iM_end iM_token iM_whole iM_nameSize iM_fault iM_place iM_trouble rM_letters iM_failed iM_hasCourt rM_r rM_fresh rM_told rM_read rM_st rM_undone rM_kept iM_undos iM_images rM_fresher iM_fresherSize iM_scale iM_night rM_heardRow rM_cutRow iM_breaths iM_cutMany iM_allBreaths rM_trial rM_words iM_fewestBreaths iM_orderMany iM_orderSum iM_leastOrder rM_often iM_setMany iM_someOf iM_allOf iM_allWeight iM_enoughWeight iM_worthSum iM_firstRest iM_leastDrawn), (arI rM_r kM_r 287 fM_r), (arI rM_told kM_told 90 fM_told), (arI rQ kQ 90 fQ)]) hB rfl ht hFc rfl
  clear hz1 hk1 hvm ht hB
  obtain ⟨x_4652, rfl⟩ : ∃ z, z = r := ⟨_, rfl⟩
  have lx_4652 := hw.2
  exact wq_i hx hb hr 0 ⟨trivial, lx_4652⟩ (fun t ht hW => Bw.to hP hD hK ht hW) hS dX7_worthOf_7 hlocks
set_option maxHeartbeats 4000000 in
set_option maxRecDepth 100000 in
theorem tX7_bestOf (l : Launch) (dC : Nat → ClassId) (dI : Nat → Nat → Nat) (sz : Nat) (oM : Nat) (iM_thrown : Int32) (rM_tape : Nat) (iM_taped : Int32) (iM_size : Int32) (iM_at : Int32) (iM_end : Int32) (iM_token : Int32) (iM_whole : Int32) (iM_nameSize : Int32) (iM_fault : Int32) (iM_place : Int32) (iM_trouble : Int32) (rM_letters : Nat) (iM_failed : Int32) (iM_hasCourt : Int32) (rM_r : Nat) (fM_r : Nat → Int32) (kM_r : ClassId) (rM_fresh : Nat) (rM_told : Nat) (fM_told : Nat → Int32) (kM_told : ClassId) (rM_read : Nat) (rM_st : Nat) (fM_st : Nat → Int32) (kM_st : ClassId) (rM_undone : Nat) (rM_kept : Nat) (iM_undos : Int32) (iM_images : Int32) (rM_fresher : Nat) (iM_fresherSize : Int32) (iM_scale : Int32) (iM_night : Int32) (rM_heardRow : Nat) (rM_cutRow : Nat) (iM_breaths : Int32) (iM_cutMany : Int32) (iM_allBreaths : Int32) (rM_trial : Nat) (rM_words : Nat) (iM_fewestBreaths : Int32) (iM_orderMany : Int32) (iM_orderSum : Int32) (iM_leastOrder : Int32) (rM_often : Nat) (iM_setMany : Int32) (iM_someOf : Int32) (iM_allOf : Int32) (iM_allWeight : Int64) (iM_enoughWeight : Int64) (iM_worthSum : Int64) (iM_firstRest : Int32) (iM_leastDrawn : Int32) (p0 : Int32) (b_iM_taped : 0 ≤ iM_taped.toInt ∧ iM_taped.toInt ≤ 900) (b_iM_size : 0 ≤ iM_size.toInt ∧ iM_size.toInt ≤ 900) (b_iM_end : 0 ≤ iM_end.toInt ∧ iM_end.toInt ≤ 900) (b_iM_failed : 0 ≤ iM_failed.toInt ∧ iM_failed.toInt ≤ 1) (b_iM_hasCourt : 0 ≤ iM_hasCourt.toInt ∧ iM_hasCourt.toInt ≤ 1) (b_iM_undos : 0 ≤ iM_undos.toInt ∧ iM_undos.toInt ≤ 16) (b_iM_images : 0 ≤ iM_images.toInt ∧ iM_images.toInt ≤ 3) (b_iM_scale : 1 ≤ iM_scale.toInt ∧ iM_scale.toInt ≤ 1296) (b_iM_breaths : 0 ≤ iM_breaths.toInt ∧ iM_breaths.toInt ≤ 399) (b_iM_cutMany : 0 ≤ iM_cutMany.toInt ∧ iM_cutMany.toInt ≤ 399) (r_R : ROk fM_r) (r_C : iM_hasCourt.toInt ≤ 0 ∨ (1 ≤ (fM_r 1).toInt ∧ 0 ≤ (fM_r 6).toInt ∧ (fM_r 6).toInt < (fM_r 1).toInt)) (r_st : RowOk fM_r fM_st) (r_told : RowOk fM_r fM_told) (r_wst : WorOk fM_st) (hk0 : 0 ≤ p0.toInt ∧ p0.toInt < (fM_r 1).toInt) (hnt : iM_night.toInt = -1) : Met l yX7_bestOf (Cond.code yX7_bestOf cX7_bestOf 3 (some .int) :: wG) ({ frames := 21, cells := 0, slots := 0, locals := 564 }) (va_Pc [.ref oM, .int p0] (Pw dC dI sz [(oc7 oM iM_thrown rM_tape iM_taped iM_size iM_at iM_end iM_token iM_whole iM_nameSize iM_fault iM_place iM_trouble rM_letters iM_failed iM_hasCourt rM_r rM_fresh rM_told rM_read rM_st rM_undone rM_kept iM_undos iM_images rM_fresher iM_fresherSize iM_scale iM_night rM_heardRow rM_cutRow iM_breaths iM_cutMany iM_allBreaths rM_trial rM_words iM_fewestBreaths iM_orderMany iM_orderSum iM_leastOrder rM_often iM_setMany iM_someOf iM_allOf iM_allWeight iM_enoughWeight iM_worthSum iM_firstRest iM_leastDrawn), (arI rM_r kM_r 287 fM_r), (arI rM_told kM_told 90 fM_told), (arI rM_st kM_st 90 fM_st)] [(kM_r, .int), (kM_told, .int), (kM_st, .int)])) (va_Qi (fun (r : Int32) (_ : Nat) => True ∧ (-2 ≤ r.toInt ∧ r.toInt < p0.toInt ∧ r.toInt ≤ 17)) (fun (_ : Nat) (t : State) => Bw dC dI (va_A [(oc7 oM iM_thrown rM_tape iM_taped iM_size iM_at iM_end iM_token iM_whole iM_nameSize iM_fault iM_place iM_trouble rM_letters iM_failed iM_hasCourt rM_r rM_fresh rM_told rM_read rM_st rM_undone rM_kept iM_undos iM_images rM_fresher iM_fresherSize iM_scale iM_night rM_heardRow rM_cutRow iM_breaths iM_cutMany iM_allBreaths rM_trial rM_words iM_fewestBreaths iM_orderMany iM_orderSum iM_leastOrder rM_often iM_setMany iM_someOf iM_allOf iM_allWeight iM_enoughWeight iM_worthSum iM_firstRest iM_leastDrawn), (arI rM_r kM_r 287 fM_r), (arI rM_told kM_told 90 fM_told), (arI rM_st kM_st 90 fM_st)] sz) [(oc7 oM iM_thrown rM_tape iM_taped iM_size iM_at iM_end iM_token iM_whole iM_nameSize iM_fault iM_place iM_trouble rM_letters iM_failed iM_hasCourt rM_r rM_fresh rM_told rM_read rM_st rM_undone rM_kept iM_undos iM_images rM_fresher iM_fresherSize iM_scale iM_night rM_heardRow rM_cutRow iM_breaths iM_cutMany iM_allBreaths rM_trial rM_words iM_fewestBreaths iM_orderMany iM_orderSum iM_leastOrder rM_often iM_setMany iM_someOf iM_allOf iM_allWeight iM_enoughWeight iM_worthSum iM_firstRest iM_leastDrawn), (arI rM_r kM_r 287 fM_r), (arI rM_told kM_told 90 fM_told), (arI rM_st kM_st 90 fM_st)] [(kM_r, .int), (kM_told, .int), (kM_st, .int)] t) (va_A [(oc7 oM iM_thrown rM_tape iM_taped iM_size iM_at iM_end iM_token iM_whole iM_nameSize iM_fault iM_place iM_trouble rM_letters iM_failed iM_hasCourt rM_r rM_fresh rM_told rM_read rM_st rM_undone rM_kept iM_undos iM_images rM_fresher iM_fresherSize iM_scale iM_night rM_heardRow rM_cutRow iM_breaths iM_cutMany iM_allBreaths rM_trial rM_words iM_fewestBreaths iM_orderMany iM_orderSum iM_leastOrder rM_often iM_setMany iM_someOf iM_allOf iM_allWeight iM_enoughWeight iM_worthSum iM_firstRest iM_leastDrawn), (arI rM_r kM_r 287 fM_r), (arI rM_told kM_told 90 fM_told), (arI rM_st kM_st 90 fM_st)] sz)) 0 0 (va_A [(oc7 oM iM_thrown rM_tape iM_taped iM_size iM_at iM_end iM_token iM_whole iM_nameSize iM_fault iM_place iM_trouble rM_letters iM_failed iM_hasCourt rM_r rM_fresh rM_told rM_read rM_st rM_undone rM_kept iM_undos iM_images rM_fresher iM_fresherSize iM_scale iM_night rM_heardRow rM_cutRow iM_breaths iM_cutMany iM_allBreaths rM_trial rM_words iM_fewestBreaths iM_orderMany iM_orderSum iM_leastOrder rM_often iM_setMany iM_someOf iM_allOf iM_allWeight iM_enoughWeight iM_worthSum iM_firstRest iM_leastDrawn), (arI rM_r kM_r 287 fM_r), (arI rM_told kM_told 90 fM_told), (arI rM_st kM_st 90 fM_st)] sz) := by
  refine Met.ofW (cc := cX7_bestOf) (maxL := 3) (ret := (some .int)) pnX7 rfl ?_
  intro p e s m args below meth c s₁ B hml hv
  obtain ⟨rfl, hsz, hP, hK, hD0, hE⟩ := hv
  have hx := B.exec
  have hb := B.bytes
  have hr := B.returns
  have hts : ∀ w ∈ wG, w.before ([.ref oM, .int p0] : List Value).toArray s = true := fun w h => atoms_spec (ws := Cond.code yX7_bestOf cX7_bestOf 3 (some .int) :: wG) B.pre w (List.mem_cons_of_mem _ h)
  have hown : s.vm.findClass RX7 = some m.cls := own_of B.named rfl
  have hlocks := B.notSynchronized
  subst hsz
  have hD := hD0.self (sz := s.heap.size)
  generalize hAe : va_A [(oc7 oM iM_thrown rM_tape iM_taped iM_size iM_at iM_end iM_token iM_whole iM_nameSize iM_fault iM_place iM_trouble rM_letters iM_failed iM_hasCourt rM_r rM_fresh rM_told rM_read rM_st rM_undone rM_kept iM_undos iM_images rM_fresher iM_fresherSize iM_scale iM_night rM_heardRow rM_cutRow iM_breaths iM_cutMany iM_allBreaths rM_trial rM_words iM_fewestBreaths iM_orderMany iM_orderSum iM_leastOrder rM_often iM_setMany iM_someOf iM_allOf iM_allWeight iM_enoughWeight iM_worthSum iM_firstRest iM_leastDrawn), (arI rM_r kM_r 287 fM_r), (arI rM_told kM_told 90 fM_told), (arI rM_st kM_st 90 fM_st)] s.heap.size = A at hD hE ⊢
  have hA : ∀ q : Nat, s.heap.size ≤ q → A q := fun q h => by rw [← hAe]; exact Or.inr h
  have hS : va_S A s.heap s.heap [] := va_S.rf
  have hl := lv_entry ([.ref oM, .int p0]) (n := 3) (Nat.le_of_ble_eq_true rfl)
  rw [lg_entry_eq]
  generalize (lg_sl ([.ref oM, .int p0]) ++ List.replicate (3 - (lg_sl ([.ref oM, .int p0])).length) Slot.unset).toArray = ls at hl ⊢
  have hl : lv_has ls 3 [(0, .ref oM), (1, .int p0)] := hl
  have s_slips := r_R.slips
  have s_nodes := r_R.nodes
  have s_uns := r_R.uns
  have q_p0 := ti_cl (x := p0) rfl (om_83bd56b0 hk0.1)
  have mn_p0 := r_R.many (27 + p0.toNatClampNeg) (by omega) (by omega)
  have kn_p0 := r_R.kind (9 + p0.toNatClampNeg) (by omega) (by omega)
  have in_p0 := r_R.inner p0.toNatClampNeg (by omega)
  refine lv_aload_n hx hb dX7_bestOf_0 rfl (lv_at hl 0 rfl) ?_
  refine va_get (D := (dC, dI)) (ci := 7) (v := .ref rM_r) (C := RX7) (T := TX7) (N := 48) hx hb hts inX7 hown hK hP 0 rfl rfl 15 (by decide) (hts _ wd_155) (fun _ h9 => h9) rfl dX7_bestOf_1 ?_
  refine lv_bipush (v := 9) hx hb dX7_bestOf_4 (by decide) ?_
  refine lv_iload_n hx hb dX7_bestOf_6 rfl (lv_at hl 1 rfl) ?_
  refine lv_iadd hx hb dX7_bestOf_7 ?_
  refine lv_topi (fun x_4683 ex_4683 => ?_)
  have vx_4683 : x_4683.toInt = p0.toInt + 9 := om_296ce4dd (ti_add ex_4683 kc_9 rfl (om_090bbef4 hk0.1) (om_79f05b99 hk0.2 s_nodes.2))
  refine va_iald hx hb hK hP 1 0 rfl rfl (ti_in vx_4683 (om_edbe2e4c hk0.1) (om_c4df49a1 hk0.2 s_nodes.2)) dX7_bestOf_8 ?_
  refine lv_topi (fun x_4684 ex_4684 => ?_)
  have kx_4684 : (fM_r x_4683.toNatClampNeg).toInt = x_4684.toInt := by rw [ex_4684]
  have cx_4684 : (fM_r (9 + p0.toNatClampNeg)).toInt = x_4684.toInt := by rw [show 9 + p0.toNatClampNeg = x_4683.toNatClampNeg from by have q9 := ti_cl (x := x_4683) vx_4683 (om_edbe2e4c hk0.1); have q_p0 := ti_cl (x := p0) rfl (om_83bd56b0 hk0.1); omega]; exact kx_4684
  have sx_4684 := r_R.kind x_4683.toNatClampNeg (by have q9 := ti_cl (x := x_4683) vx_4683 (om_edbe2e4c hk0.1); omega) (by have q9 := ti_cl (x := x_4683) vx_4683 (om_edbe2e4c hk0.1); omega)
  refine lv_iconst (v := 1) hx hb dX7_bestOf_9 (by decide) ?_
  refine lv_icmp_eq (tgt := 29) hx hb dX7_bestOf_10 (by decide) (fun c_4685 => ?_) (fun c_4685 => ?_)
  · skip
    have gc_4685 := ti_eq c_4685 rfl kc_1
    refine lv_iconst (v := 0) hx hb dX7_bestOf_29 (by decide) ?_
    refine lv_istore_n (lv' := [(2, .int 0), (0, .ref oM), (1, .int p0)]) hx hb dX7_bestOf_30 rfl hl (by decide) rfl (fun ls hl => ?_)
    have hl := lv_sub hl (l' := [(2, .int 0), (0, .ref oM), (1, .int p0)]) [0, 1, 2] rfl
    have key_n_4687 : ∀ (n_4687 : Nat) (z_4686 : Int32) (H : Heap) (locs : List Loc) (ls : Array Slot), (0 ≤ z_4686.toInt ∧ z_4686.toInt < (fM_r (27 + p0.toNatClampNeg)).toInt) → (BestJ fM_r fM_told fM_st iM_scale p0.toNatClampNeg z_4686.toInt) → ((fM_r (27 + p0.toNatClampNeg)).toInt - z_4686.toInt).toNat < n_4687 → va_P (dC, dI) vwCl [(oc7 oM iM_thrown rM_tape iM_taped iM_size iM_at iM_end iM_token iM_whole iM_nameSize iM_fault iM_place iM_trouble rM_letters iM_failed iM_hasCourt rM_r rM_fresh rM_told rM_read rM_st rM_undone rM_kept iM_undos iM_images rM_fresher iM_fresherSize iM_scale iM_night rM_heardRow rM_cutRow iM_breaths iM_cutMany iM_allBreaths rM_trial rM_words iM_fewestBreaths iM_orderMany iM_orderSum iM_leastOrder rM_often iM_setMany iM_someOf iM_allOf iM_allWeight iM_enoughWeight iM_worthSum iM_firstRest iM_leastDrawn), (arI rM_r kM_r 287 fM_r), (arI rM_told kM_told 90 fM_told), (arI rM_st kM_st 90 fM_st)] H → va_D A [(oc7 oM iM_thrown rM_tape iM_taped iM_size iM_at iM_end iM_token iM_whole iM_nameSize iM_fault iM_place iM_trouble rM_letters iM_failed iM_hasCourt rM_r rM_fresh rM_told rM_read rM_st rM_undone rM_kept iM_undos iM_images rM_fresher iM_fresherSize iM_scale iM_night rM_heardRow rM_cutRow iM_breaths iM_cutMany iM_allBreaths rM_trial rM_words iM_fewestBreaths iM_orderMany iM_orderSum iM_leastOrder rM_often iM_setMany iM_someOf iM_allOf iM_allWeight iM_enoughWeight iM_worthSum iM_firstRest iM_leastDrawn), (arI rM_r kM_r 287 fM_r), (arI rM_told kM_told 90 fM_told), (arI rM_st kM_st 90 fM_st)] → va_S A s.heap H locs → lv_has ls 3 [(2, .int z_4686), (0, .ref oM), (1, .int p0)] → W p l e (headSpec (Cond.code yX7_bestOf cX7_bestOf 3 (some .int) :: wG) ({ frames := 21, cells := 0, slots := 0, locals := 564 })).room s m ([.ref oM, .int p0] : List Value).toArray below meth c H locs 0 0 (MQ below (va_Qi (fun (r : Int32) (_ : Nat) => True ∧ (-2 ≤ r.toInt ∧ r.toInt < p0.toInt ∧ r.toInt ≤ 17)) (fun (_ : Nat) (t : State) => Bw dC dI A [(oc7 oM iM_thrown rM_tape iM_taped iM_size iM_at iM_end iM_token iM_whole iM_nameSize iM_fault iM_place iM_trouble rM_letters iM_failed iM_hasCourt rM_r rM_fresh rM_told rM_read rM_st rM_undone rM_kept iM_undos iM_images rM_fresher iM_fresherSize iM_scale iM_night rM_heardRow rM_cutRow iM_breaths iM_cutMany iM_allBreaths rM_trial rM_words iM_fewestBreaths iM_orderMany iM_orderSum iM_leastOrder rM_often iM_setMany iM_someOf iM_allOf iM_allWeight iM_enoughWeight iM_worthSum iM_firstRest iM_leastDrawn), (arI rM_r kM_r 287 fM_r), (arI rM_told kM_told 90 fM_told), (arI rM_st kM_st 90 fM_st)] [(kM_r, .int), (kM_told, .int), (kM_st, .int)] t) A) ([.ref oM, .int p0] : List Value).toArray s 0 0 A) (F0 m 31 ls []) := by
      intro n_4687
      induction n_4687 with
      | zero => intro z_4686 H locs ls hi0_n_4687 hi1_n_4687 hm; exact absurd hm (Nat.not_lt_zero _)
      | succ n_4687 ih_n_4687 =>
        intro z_4686 H locs ls hi0_n_4687 hi1_n_4687 hm_n_4687 hP hD hS hl
        refine lv_aload_n hx hb dX7_bestOf_31 rfl (lv_at hl 1 rfl) ?_
        refine lv_aload_n hx hb dX7_bestOf_32 rfl (lv_at hl 1 rfl) ?_
        refine va_get (D := (dC, dI)) (ci := 7) (v := .ref rM_st) (C := RX7) (T := TX7) (N := 48) hx hb hts inX7 hown hK hP 0 rfl rfl 19 (by decide) (hts _ wd_159) (fun _ h9 => h9) rfl dX7_bestOf_33 ?_
        refine lv_aload_n hx hb dX7_bestOf_36 rfl (lv_at hl 1 rfl) ?_
        refine va_get (D := (dC, dI)) (ci := 7) (v := .ref rM_st) (C := RX7) (T := TX7) (N := 48) hx hb hts inX7 hown hK hP 0 rfl rfl 19 (by decide) (hts _ wd_159) (fun _ h9 => h9) rfl dX7_bestOf_37 ?_
        refine lv_iconst (v := 4) hx hb dX7_bestOf_40 (by decide) ?_
        refine lv_iload_n hx hb dX7_bestOf_41 rfl (lv_at hl 2 rfl) ?_
        refine lv_imul hx hb dX7_bestOf_42 ?_
        refine lv_topi (fun x_4688 ex_4688 => ?_)
        have vx_4688 : x_4688.toInt = 4 * p0.toInt := ti_mul ex_4688 kc_4 rfl (om_56b74365 hk0.1) (om_eac0354e hk0.2 s_nodes.2)
        refine lv_iload_n hx hb dX7_bestOf_43 rfl (lv_at hl 0 rfl) ?_
        refine lv_iadd hx hb dX7_bestOf_44 ?_
        refine lv_topi (fun x_4689 ex_4689 => ?_)
        have vx_4689 : x_4689.toInt = 4 * p0.toInt + z_4686.toInt := om_5d0caf0f (ti_add ex_4689 vx_4688 rfl (om_056a216f hk0.1 hi0_n_4687.1) (om_e3219df6 hk0.2 s_nodes.2 mn_p0.2 hi0_n_4687.2))
        refine va_iald hx hb hK hP 3 2 rfl rfl (ti_in vx_4689 (om_fc2812d4 hk0.1 hi0_n_4687.1) (om_b69853f0 hk0.2 s_nodes.2 mn_p0.2 hi0_n_4687.2)) dX7_bestOf_45 ?_
        refine lv_topi (fun x_4690 ex_4690 => ?_)
        have kx_4690 : (fM_st x_4689.toNatClampNeg).toInt = x_4690.toInt := by rw [ex_4690]
        have cx_4690 : (fM_st (4 * p0.toNatClampNeg + z_4686.toNatClampNeg)).toInt = x_4690.toInt := by rw [show 4 * p0.toNatClampNeg + z_4686.toNatClampNeg = x_4689.toNatClampNeg from by have q9 := ti_cl (x := x_4689) vx_4689 (om_fc2812d4 hk0.1 hi0_n_4687.1); have q_p0 := ti_cl (x := p0) rfl (om_83bd56b0 hk0.1); have q_z_4686 := ti_cl (x := z_4686) rfl (om_83bd56b0 hi0_n_4687.1); omega]; exact kx_4690
        have wx_4690 := r_st.lt p0.toNatClampNeg (z_4686.toNatClampNeg) (by have q_1 := ti_cl (x := p0) rfl (om_83bd56b0 hk0.1); have q_2 := ti_cl (x := z_4686) rfl (om_83bd56b0 hi0_n_4687.1); omega) (by have q_1 := ti_cl (x := p0) rfl (om_83bd56b0 hk0.1); have q_2 := ti_cl (x := z_4686) rfl (om_83bd56b0 hi0_n_4687.1); omega)
        have wx_4690 : 0 ≤ x_4690.toInt ∧ x_4690.toInt < p0.toInt := by have q_1 := ti_cl (x := p0) rfl (om_83bd56b0 hk0.1); have q_2 := ti_cl (x := z_4686) rfl (om_83bd56b0 hi0_n_4687.1); have q_3 := cx_4690; rw [show 4 * p0.toNatClampNeg + (z_4686.toNatClampNeg) = 4 * p0.toNatClampNeg + z_4686.toNatClampNeg from by omega] at wx_4690; omega
        have hFc := va_freeI hD hS hA
        refine va_calli (va_runV (As := [.ref rM_st, .int x_4690]) (rest := []) ⟨hx, hb, hml, hown, hts⟩ (tX7_worthOf_x l dC dI _ oM iM_thrown rM_tape iM_taped iM_size iM_at iM_end iM_token iM_whole iM_nameSize iM_fault iM_place iM_trouble rM_letters iM_failed iM_hasCourt rM_r fM_r kM_r rM_fresh rM_told fM_told kM_told rM_read rM_st rM_undone rM_kept iM_undos iM_images rM_fresher iM_fresherSize iM_scale iM_night rM_heardRow rM_cutRow iM_breaths iM_cutMany iM_allBreaths rM_trial rM_words iM_fewestBreaths iM_orderMany iM_orderSum iM_leastOrder rM_often iM_setMany iM_someOf iM_allOf iM_allWeight iM_enoughWeight iM_worthSum iM_firstRest iM_leastDrawn rM_st fM_st kM_st x_4690 b_iM_taped b_iM_size b_iM_end b_iM_failed b_iM_hasCourt b_iM_undos b_iM_images b_iM_scale b_iM_breaths b_iM_cutMany (by assumption) (by assumption) (by assumption) (by assumption) ⟨(om_83bd56b0 wx_4690.1), (om_90a71968 hk0.2 wx_4690.2)⟩ (om_bd90d29b hnt)) (cwV 2 hts (wd_V wd_645 wd_646 wd_647 wd_5 (wd_c wd_648)) rfl rfl rfl dv_yX7_worthOf_2 ⟨Nat.le_of_ble_eq_true rfl, Nat.le_of_ble_eq_true rfl⟩) ⟨Pw.fb, recvX7 hK hP (q0 := 0) rfl, fun U hU hW => Pw.to hP hD hK hE hS hFc hU hW⟩ rfl rfl hl.1 rfl (lv_room (Nat.le_of_ble_eq_true rfl)) dX7_bestOf_46 ⟨Nat.le_of_ble_eq_true rfl, Nat.le_of_ble_eq_true rfl⟩) hS (fun q _ h => hFc q h) hFc (fun r u t H locs ht hvm hw hB hz1 hk1 hS => ?_)
        obtain ⟨hP, hD⟩ := Bw.goA (ws' := [(oc7 oM iM_thrown rM_tape iM_taped iM_size iM_at iM_end iM_token iM_whole iM_nameSize iM_fault iM_place iM_trouble rM_letters iM_failed iM_hasCourt rM_r rM_fresh rM_told rM_read rM_st rM_undone rM_kept iM_undos iM_images rM_fresher iM_fresherSize iM_scale iM_night rM_heardRow rM_cutRow iM_breaths iM_cutMany iM_allBreaths rM_trial rM_words iM_fewestBreaths iM_orderMany iM_orderSum iM_leastOrder rM_often iM_setMany iM_someOf iM_allOf iM_allWeight iM_enoughWeight iM_worthSum iM_firstRest iM_leastDrawn), (arI rM_r kM_r 287 fM_r), (arI rM_told kM_told 90 fM_told), (arI rM_st kM_st 90 fM_st)]) hB rfl ht hFc rfl
        clear hz1 hk1 hvm ht hB
        obtain ⟨x_4691, rfl⟩ : ∃ z, z = r := ⟨_, rfl⟩
        have lx_4691 := hw.2
        refine lv_aload_n hx hb dX7_bestOf_49 rfl (lv_at hl 1 rfl) ?_
        refine lv_aload_n hx hb dX7_bestOf_50 rfl (lv_at hl 1 rfl) ?_
        refine va_get (D := (dC, dI)) (ci := 7) (v := .ref rM_st) (C := RX7) (T := TX7) (N := 48) hx hb hts inX7 hown hK hP 0 rfl rfl 19 (by decide) (hts _ wd_159) (fun _ h9 => h9) rfl dX7_bestOf_51 ?_
        refine lv_iload_n hx hb dX7_bestOf_54 rfl (lv_at hl 2 rfl) ?_
        have hFc := va_freeI hD hS hA
        refine va_calli (va_runV (As := [.ref rM_st, .int p0]) (rest := [.int x_4691]) ⟨hx, hb, hml, hown, hts⟩ (tX7_worthOf_x l dC dI _ oM iM_thrown rM_tape iM_taped iM_size iM_at iM_end iM_token iM_whole iM_nameSize iM_fault iM_place iM_trouble rM_letters iM_failed iM_hasCourt rM_r fM_r kM_r rM_fresh rM_told fM_told kM_told rM_read rM_st rM_undone rM_kept iM_undos iM_images rM_fresher iM_fresherSize iM_scale iM_night rM_heardRow rM_cutRow iM_breaths iM_cutMany iM_allBreaths rM_trial rM_words iM_fewestBreaths iM_orderMany iM_orderSum iM_leastOrder rM_often iM_setMany iM_someOf iM_allOf iM_allWeight iM_enoughWeight iM_worthSum iM_firstRest iM_leastDrawn rM_st fM_st kM_st p0 b_iM_taped b_iM_size b_iM_end b_iM_failed b_iM_hasCourt b_iM_undos b_iM_images b_iM_scale b_iM_breaths b_iM_cutMany (by assumption) (by assumption) (by assumption) (by assumption) ⟨(om_83bd56b0 hk0.1), (om_c6249b78 hk0.2)⟩ (om_bd90d29b hnt)) (cwV 2 hts (wd_V wd_645 wd_646 wd_647 wd_5 (wd_c wd_648)) rfl rfl rfl dv_yX7_worthOf_2 ⟨Nat.le_of_ble_eq_true rfl, Nat.le_of_ble_eq_true rfl⟩) ⟨Pw.fb, recvX7 hK hP (q0 := 0) rfl, fun U hU hW => Pw.to hP hD hK hE hS hFc hU hW⟩ rfl rfl hl.1 rfl (lv_room (Nat.le_of_ble_eq_true rfl)) dX7_bestOf_55 ⟨Nat.le_of_ble_eq_true rfl, Nat.le_of_ble_eq_true rfl⟩) hS (fun q _ h => hFc q h) hFc (fun r u t H locs ht hvm hw hB hz1 hk1 hS => ?_)
        obtain ⟨hP, hD⟩ := Bw.goA (ws' := [(oc7 oM iM_thrown rM_tape iM_taped iM_size iM_at iM_end iM_token iM_whole iM_nameSize iM_fault iM_place iM_trouble rM_letters iM_failed iM_hasCourt rM_r rM_fresh rM_told rM_read rM_st rM_undone rM_kept iM_undos iM_images rM_fresher iM_fresherSize iM_scale iM_night rM_heardRow rM_cutRow iM_breaths iM_cutMany iM_allBreaths rM_trial rM_words iM_fewestBreaths iM_orderMany iM_orderSum iM_leastOrder rM_often iM_setMany iM_someOf iM_allOf iM_allWeight iM_enoughWeight iM_worthSum iM_firstRest iM_leastDrawn), (arI rM_r kM_r 287 fM_r), (arI rM_told kM_told 90 fM_told), (arI rM_st kM_st 90 fM_st)]) hB rfl ht hFc rfl
        clear hz1 hk1 hvm ht hB
        obtain ⟨x_4692, rfl⟩ : ∃ z, z = r := ⟨_, rfl⟩
        have lx_4692 := hw.2
        refine lv_icmp_eq (tgt := 67) hx hb dX7_bestOf_58 (by decide) (fun c_4693 => ?_) (fun c_4693 => ?_)
        · skip
          have gc_4693 := ti_eq c_4693 rfl rfl
          refine lv_aload_n hx hb dX7_bestOf_67 rfl (lv_at hl 1 rfl) ?_
          refine va_get (D := (dC, dI)) (ci := 7) (v := .ref rM_st) (C := RX7) (T := TX7) (N := 48) hx hb hts inX7 hown hK hP 0 rfl rfl 19 (by decide) (hts _ wd_159) (fun _ h9 => h9) rfl dX7_bestOf_68 ?_
          refine lv_iconst (v := 4) hx hb dX7_bestOf_71 (by decide) ?_
          refine lv_iload_n hx hb dX7_bestOf_72 rfl (lv_at hl 2 rfl) ?_
          refine lv_imul hx hb dX7_bestOf_73 ?_
          refine lv_topi (fun x_4694 ex_4694 => ?_)
          have vx_4694 : x_4694.toInt = 4 * p0.toInt := ti_mul ex_4694 kc_4 rfl (om_56b74365 hk0.1) (om_eac0354e hk0.2 s_nodes.2)
          refine lv_iload_n hx hb dX7_bestOf_74 rfl (lv_at hl 0 rfl) ?_
          refine lv_iadd hx hb dX7_bestOf_75 ?_
          refine lv_topi (fun x_4695 ex_4695 => ?_)
          have vx_4695 : x_4695.toInt = 4 * p0.toInt + z_4686.toInt := om_5d0caf0f (ti_add ex_4695 vx_4694 rfl (om_056a216f hk0.1 hi0_n_4687.1) (om_e3219df6 hk0.2 s_nodes.2 mn_p0.2 hi0_n_4687.2))
          refine va_iald hx hb hK hP 3 2 rfl rfl (ti_in vx_4695 (om_fc2812d4 hk0.1 hi0_n_4687.1) (om_b69853f0 hk0.2 s_nodes.2 mn_p0.2 hi0_n_4687.2)) dX7_bestOf_76 ?_
          refine lv_topi (fun x_4696 ex_4696 => ?_)
          have kx_4696 : (fM_st x_4695.toNatClampNeg).toInt = x_4696.toInt := by rw [ex_4696]
          have cx_4696 : (fM_st (4 * p0.toNatClampNeg + z_4686.toNatClampNeg)).toInt = x_4696.toInt := by rw [show 4 * p0.toNatClampNeg + z_4686.toNatClampNeg = x_4695.toNatClampNeg from by have q9 := ti_cl (x := x_4695) vx_4695 (om_fc2812d4 hk0.1 hi0_n_4687.1); have q_p0 := ti_cl (x := p0) rfl (om_83bd56b0 hk0.1); have q_z_4686 := ti_cl (x := z_4686) rfl (om_83bd56b0 hi0_n_4687.1); omega]; exact kx_4696
          have wx_4696 := r_st.lt p0.toNatClampNeg (z_4686.toNatClampNeg) (by have q_1 := ti_cl (x := p0) rfl (om_83bd56b0 hk0.1); have q_2 := ti_cl (x := z_4686) rfl (om_83bd56b0 hi0_n_4687.1); omega) (by have q_1 := ti_cl (x := p0) rfl (om_83bd56b0 hk0.1); have q_2 := ti_cl (x := z_4686) rfl (om_83bd56b0 hi0_n_4687.1); omega)
          have wx_4696 : 0 ≤ x_4696.toInt ∧ x_4696.toInt < p0.toInt := by have q_1 := ti_cl (x := p0) rfl (om_83bd56b0 hk0.1); have q_2 := ti_cl (x := z_4686) rfl (om_83bd56b0 hi0_n_4687.1); have q_3 := cx_4696; rw [show 4 * p0.toNatClampNeg + (z_4686.toNatClampNeg) = 4 * p0.toNatClampNeg + z_4686.toNatClampNeg from by omega] at wx_4696; omega
          exact wq_i hx hb hr 0 ⟨trivial, (by first | omega | assumption)⟩ (fun t ht hW => Bw.to hP hD hK ht hW) hS dX7_bestOf_77 hlocks
        · skip
          have gc_4693 := ti_ne c_4693 rfl rfl
          obtain ⟨x_4697, ex_4697⟩ : ∃ z : Int32, z = z_4686 + Int32.ofInt 1 := ⟨_, rfl⟩
          have vx_4697 : x_4697.toInt = z_4686.toInt + 1 := ti_add (y := 1) ex_4697 rfl kc_1 (om_4e4fce7e hi0_n_4687.1) (om_0ca29412 mn_p0.2 hi0_n_4687.2)
          refine lv_iinc (v := x_4697) (lv' := [(2, .int x_4697), (0, .ref oM), (1, .int p0)]) hx hb dX7_bestOf_61 hl (k := 0) rfl ex_4697.symm (by decide) rfl (fun ls hl => ?_)
          refine lv_goto (tgt := 31) hx hb dX7_bestOf_64 (by decide) ?_
          have ex9 : BestJ fM_r fM_told fM_st iM_scale p0.toNatClampNeg x_4697.toInt := best_go (n := z_4686.toNatClampNeg) hi1_n_4687 (by have q1 := ti_cl (x := z_4686) rfl (om_83bd56b0 hi0_n_4687.1); omega) (by have q := cx_4690; rw [show 4 * p0.toNatClampNeg + z_4686.toNatClampNeg = 4 * p0.toNatClampNeg + z_4686.toNatClampNeg from by omega]; exact q) lx_4691 lx_4692 (by omega) (by omega)
          exact ih_n_4687 x_4697 _ _ _  (by have q9 := best_lt ex9; omega) ex9 (ms_lt hm_n_4687 (om_dd4ae0bc vx_4697) (om_d5382009 hi0_n_4687.2)) hP hD hS (lv_sub hl [0, 1, 2] rfl)
    have be9 := best_ex (ft := fM_told) (sc := iM_scale) r_R r_st r_wst (by omega) (k := p0.toNatClampNeg) (by omega) (by omega)
    have mm9 : 1 ≤ (fM_r (27 + p0.toNatClampNeg)).toInt := in_p0 (by omega)
    have bf9 : BestJ fM_r fM_told fM_st iM_scale p0.toNatClampNeg (0 : Int32).toInt := best_start (by have q := kc_0; omega) be9
    clear be9
    exact key_n_4687 ((((fM_r (27 + p0.toNatClampNeg)).toInt - (0 : Int32).toInt).toNat) + 1) 0 _ _ _  ⟨(om_b1de7dbe kc_0), (om_ca2cca41 mm9 kc_0)⟩ (by first | assumption | omega | decide) (Nat.lt_add_one _) hP hD hS hl
  · skip
    have gc_4685 := ti_ne c_4685 rfl kc_1
    refine lv_aload_n hx hb dX7_bestOf_13 rfl (lv_at hl 0 rfl) ?_
    refine va_get (D := (dC, dI)) (ci := 7) (v := .ref rM_r) (C := RX7) (T := TX7) (N := 48) hx hb hts inX7 hown hK hP 0 rfl rfl 15 (by decide) (hts _ wd_155) (fun _ h9 => h9) rfl dX7_bestOf_14 ?_
    refine lv_bipush (v := 9) hx hb dX7_bestOf_17 (by decide) ?_
    refine lv_iload_n hx hb dX7_bestOf_19 rfl (lv_at hl 1 rfl) ?_
    refine lv_iadd hx hb dX7_bestOf_20 ?_
    refine lv_topi (fun x_4698 ex_4698 => ?_)
    have vx_4698 : x_4698.toInt = p0.toInt + 9 := om_296ce4dd (ti_add ex_4698 kc_9 rfl (om_090bbef4 hk0.1) (om_79f05b99 hk0.2 s_nodes.2))
    refine va_iald hx hb hK hP 1 0 rfl rfl (ti_in vx_4698 (om_edbe2e4c hk0.1) (om_c4df49a1 hk0.2 s_nodes.2)) dX7_bestOf_21 ?_
    refine lv_topi (fun x_4699 ex_4699 => ?_)
    have kx_4699 : (fM_r x_4698.toNatClampNeg).toInt = x_4699.toInt := by rw [ex_4699]
    have cx_4699 : (fM_r (9 + p0.toNatClampNeg)).toInt = x_4699.toInt := by rw [show 9 + p0.toNatClampNeg = x_4698.toNatClampNeg from by have q9 := ti_cl (x := x_4698) vx_4698 (om_edbe2e4c hk0.1); have q_p0 := ti_cl (x := p0) rfl (om_83bd56b0 hk0.1); omega]; exact kx_4699
    have sx_4699 := r_R.kind x_4698.toNatClampNeg (by have q9 := ti_cl (x := x_4698) vx_4698 (om_edbe2e4c hk0.1); omega) (by have q9 := ti_cl (x := x_4698) vx_4698 (om_edbe2e4c hk0.1); omega)
    refine lv_iconst (v := 2) hx hb dX7_bestOf_22 (by decide) ?_
    refine lv_icmp_eq (tgt := 29) hx hb dX7_bestOf_23 (by decide) (fun c_4700 => ?_) (fun c_4700 => ?_)
    · skip
      have gc_4700 := ti_eq c_4700 rfl kc_2
      refine lv_iconst (v := 0) hx hb dX7_bestOf_29 (by decide) ?_
      refine lv_istore_n (lv' := [(2, .int 0), (0, .ref oM), (1, .int p0)]) hx hb dX7_bestOf_30 rfl hl (by decide) rfl (fun ls hl => ?_)
      have hl := lv_sub hl (l' := [(2, .int 0), (0, .ref oM), (1, .int p0)]) [0, 1, 2] rfl
      have key_n_4702 : ∀ (n_4702 : Nat) (z_4701 : Int32) (H : Heap) (locs : List Loc) (ls : Array Slot), (0 ≤ z_4701.toInt ∧ z_4701.toInt < (fM_r (27 + p0.toNatClampNeg)).toInt) → (BestJ fM_r fM_told fM_st iM_scale p0.toNatClampNeg z_4701.toInt) → ((fM_r (27 + p0.toNatClampNeg)).toInt - z_4701.toInt).toNat < n_4702 → va_P (dC, dI) vwCl [(oc7 oM iM_thrown rM_tape iM_taped iM_size iM_at iM_end iM_token iM_whole iM_nameSize iM_fault iM_place iM_trouble rM_letters iM_failed iM_hasCourt rM_r rM_fresh rM_told rM_read rM_st rM_undone rM_kept iM_undos iM_images rM_fresher iM_fresherSize iM_scale iM_night rM_heardRow rM_cutRow iM_breaths iM_cutMany iM_allBreaths rM_trial rM_words iM_fewestBreaths iM_orderMany iM_orderSum iM_leastOrder rM_often iM_setMany iM_someOf iM_allOf iM_allWeight iM_enoughWeight iM_worthSum iM_firstRest iM_leastDrawn), (arI rM_r kM_r 287 fM_r), (arI rM_told kM_told 90 fM_told), (arI rM_st kM_st 90 fM_st)] H → va_D A [(oc7 oM iM_thrown rM_tape iM_taped iM_size iM_at iM_end iM_token iM_whole iM_nameSize iM_fault iM_place iM_trouble rM_letters iM_failed iM_hasCourt rM_r rM_fresh rM_told rM_read rM_st rM_undone rM_kept iM_undos iM_images rM_fresher iM_fresherSize iM_scale iM_night rM_heardRow rM_cutRow iM_breaths iM_cutMany iM_allBreaths rM_trial rM_words iM_fewestBreaths iM_orderMany iM_orderSum iM_leastOrder rM_often iM_setMany iM_someOf iM_allOf iM_allWeight iM_enoughWeight iM_worthSum iM_firstRest iM_leastDrawn), (arI rM_r kM_r 287 fM_r), (arI rM_told kM_told 90 fM_told), (arI rM_st kM_st 90 fM_st)] → va_S A s.heap H locs → lv_has ls 3 [(2, .int z_4701), (0, .ref oM), (1, .int p0)] → W p l e (headSpec (Cond.code yX7_bestOf cX7_bestOf 3 (some .int) :: wG) ({ frames := 21, cells := 0, slots := 0, locals := 564 })).room s m ([.ref oM, .int p0] : List Value).toArray below meth c H locs 0 0 (MQ below (va_Qi (fun (r : Int32) (_ : Nat) => True ∧ (-2 ≤ r.toInt ∧ r.toInt < p0.toInt ∧ r.toInt ≤ 17)) (fun (_ : Nat) (t : State) => Bw dC dI A [(oc7 oM iM_thrown rM_tape iM_taped iM_size iM_at iM_end iM_token iM_whole iM_nameSize iM_fault iM_place iM_trouble rM_letters iM_failed iM_hasCourt rM_r rM_fresh rM_told rM_read rM_st rM_undone rM_kept iM_undos iM_images rM_fresher iM_fresherSize iM_scale iM_night rM_heardRow rM_cutRow iM_breaths iM_cutMany iM_allBreaths rM_trial rM_words iM_fewestBreaths iM_orderMany iM_orderSum iM_leastOrder rM_often iM_setMany iM_someOf iM_allOf iM_allWeight iM_enoughWeight iM_worthSum iM_firstRest iM_leastDrawn), (arI rM_r kM_r 287 fM_r), (arI rM_told kM_told 90 fM_told), (arI rM_st kM_st 90 fM_st)] [(kM_r, .int), (kM_told, .int), (kM_st, .int)] t) A) ([.ref oM, .int p0] : List Value).toArray s 0 0 A) (F0 m 31 ls []) := by
        intro n_4702
        induction n_4702 with
        | zero => intro z_4701 H locs ls hi0_n_4702 hi1_n_4702 hm; exact absurd hm (Nat.not_lt_zero _)
        | succ n_4702 ih_n_4702 =>
          intro z_4701 H locs ls hi0_n_4702 hi1_n_4702 hm_n_4702 hP hD hS hl
          refine lv_aload_n hx hb dX7_bestOf_31 rfl (lv_at hl 1 rfl) ?_
          refine lv_aload_n hx hb dX7_bestOf_32 rfl (lv_at hl 1 rfl) ?_
          refine va_get (D := (dC, dI)) (ci := 7) (v := .ref rM_st) (C := RX7) (T := TX7) (N := 48) hx hb hts inX7 hown hK hP 0 rfl rfl 19 (by decide) (hts _ wd_159) (fun _ h9 => h9) rfl dX7_bestOf_33 ?_
          refine lv_aload_n hx hb dX7_bestOf_36 rfl (lv_at hl 1 rfl) ?_
          refine va_get (D := (dC, dI)) (ci := 7) (v := .ref rM_st) (C := RX7) (T := TX7) (N := 48) hx hb hts inX7 hown hK hP 0 rfl rfl 19 (by decide) (hts _ wd_159) (fun _ h9 => h9) rfl dX7_bestOf_37 ?_
          refine lv_iconst (v := 4) hx hb dX7_bestOf_40 (by decide) ?_
          refine lv_iload_n hx hb dX7_bestOf_41 rfl (lv_at hl 2 rfl) ?_
          refine lv_imul hx hb dX7_bestOf_42 ?_
          refine lv_topi (fun x_4703 ex_4703 => ?_)
          have vx_4703 : x_4703.toInt = 4 * p0.toInt := ti_mul ex_4703 kc_4 rfl (om_56b74365 hk0.1) (om_eac0354e hk0.2 s_nodes.2)
          refine lv_iload_n hx hb dX7_bestOf_43 rfl (lv_at hl 0 rfl) ?_
          refine lv_iadd hx hb dX7_bestOf_44 ?_
          refine lv_topi (fun x_4704 ex_4704 => ?_)
          have vx_4704 : x_4704.toInt = 4 * p0.toInt + z_4701.toInt := om_5d0caf0f (ti_add ex_4704 vx_4703 rfl (om_056a216f hk0.1 hi0_n_4702.1) (om_e3219df6 hk0.2 s_nodes.2 mn_p0.2 hi0_n_4702.2))
          refine va_iald hx hb hK hP 3 2 rfl rfl (ti_in vx_4704 (om_fc2812d4 hk0.1 hi0_n_4702.1) (om_b69853f0 hk0.2 s_nodes.2 mn_p0.2 hi0_n_4702.2)) dX7_bestOf_45 ?_
          refine lv_topi (fun x_4705 ex_4705 => ?_)
          have kx_4705 : (fM_st x_4704.toNatClampNeg).toInt = x_4705.toInt := by rw [ex_4705]
          have cx_4705 : (fM_st (4 * p0.toNatClampNeg + z_4701.toNatClampNeg)).toInt = x_4705.toInt := by rw [show 4 * p0.toNatClampNeg + z_4701.toNatClampNeg = x_4704.toNatClampNeg from by have q9 := ti_cl (x := x_4704) vx_4704 (om_fc2812d4 hk0.1 hi0_n_4702.1); have q_p0 := ti_cl (x := p0) rfl (om_83bd56b0 hk0.1); have q_z_4701 := ti_cl (x := z_4701) rfl (om_83bd56b0 hi0_n_4702.1); omega]; exact kx_4705
          have wx_4705 := r_st.lt p0.toNatClampNeg (z_4701.toNatClampNeg) (by have q_1 := ti_cl (x := p0) rfl (om_83bd56b0 hk0.1); have q_2 := ti_cl (x := z_4701) rfl (om_83bd56b0 hi0_n_4702.1); omega) (by have q_1 := ti_cl (x := p0) rfl (om_83bd56b0 hk0.1); have q_2 := ti_cl (x := z_4701) rfl (om_83bd56b0 hi0_n_4702.1); omega)
          have wx_4705 : 0 ≤ x_4705.toInt ∧ x_4705.toInt < p0.toInt := by have q_1 := ti_cl (x := p0) rfl (om_83bd56b0 hk0.1); have q_2 := ti_cl (x := z_4701) rfl (om_83bd56b0 hi0_n_4702.1); have q_3 := cx_4705; rw [show 4 * p0.toNatClampNeg + (z_4701.toNatClampNeg) = 4 * p0.toNatClampNeg + z_4701.toNatClampNeg from by omega] at wx_4705; omega
          have hFc := va_freeI hD hS hA
          refine va_calli (va_runV (As := [.ref rM_st, .int x_4705]) (rest := []) ⟨hx, hb, hml, hown, hts⟩ (tX7_worthOf_x l dC dI _ oM iM_thrown rM_tape iM_taped iM_size iM_at iM_end iM_token iM_whole iM_nameSize iM_fault iM_place iM_trouble rM_letters iM_failed iM_hasCourt rM_r fM_r kM_r rM_fresh rM_told fM_told kM_told rM_read rM_st rM_undone rM_kept iM_undos iM_images rM_fresher iM_fresherSize iM_scale iM_night rM_heardRow rM_cutRow iM_breaths iM_cutMany iM_allBreaths rM_trial rM_words iM_fewestBreaths iM_orderMany iM_orderSum iM_leastOrder rM_often iM_setMany iM_someOf iM_allOf iM_allWeight iM_enoughWeight iM_worthSum iM_firstRest iM_leastDrawn rM_st fM_st kM_st x_4705 b_iM_taped b_iM_size b_iM_end b_iM_failed b_iM_hasCourt b_iM_undos b_iM_images b_iM_scale b_iM_breaths b_iM_cutMany (by assumption) (by assumption) (by assumption) (by assumption) ⟨(om_83bd56b0 wx_4705.1), (om_90a71968 hk0.2 wx_4705.2)⟩ (om_bd90d29b hnt)) (cwV 2 hts (wd_V wd_645 wd_646 wd_647 wd_5 (wd_c wd_648)) rfl rfl rfl dv_yX7_worthOf_2 ⟨Nat.le_of_ble_eq_true rfl, Nat.le_of_ble_eq_true rfl⟩) ⟨Pw.fb, recvX7 hK hP (q0 := 0) rfl, fun U hU hW => Pw.to hP hD hK hE hS hFc hU hW⟩ rfl rfl hl.1 rfl (lv_room (Nat.le_of_ble_eq_true rfl)) dX7_bestOf_46 ⟨Nat.le_of_ble_eq_true rfl, Nat.le_of_ble_eq_true rfl⟩) hS (fun q _ h => hFc q h) hFc (fun r u t H locs ht hvm hw hB hz1 hk1 hS => ?_)
          obtain ⟨hP, hD⟩ := Bw.goA (ws' := [(oc7 oM iM_thrown rM_tape iM_taped iM_size iM_at iM_end iM_token iM_whole iM_nameSize iM_fault iM_place iM_trouble rM_letters iM_failed iM_hasCourt rM_r rM_fresh rM_told rM_read rM_st rM_undone rM_kept iM_undos iM_images rM_fresher iM_fresherSize iM_scale iM_night rM_heardRow rM_cutRow iM_breaths iM_cutMany iM_allBreaths rM_trial rM_words iM_fewestBreaths iM_orderMany iM_orderSum iM_leastOrder rM_often iM_setMany iM_someOf iM_allOf iM_allWeight iM_enoughWeight iM_worthSum iM_firstRest iM_leastDrawn), (arI rM_r kM_r 287 fM_r), (arI rM_told kM_told 90 fM_told), (arI rM_st kM_st 90 fM_st)]) hB rfl ht hFc rfl
          clear hz1 hk1 hvm ht hB
          obtain ⟨x_4706, rfl⟩ : ∃ z, z = r := ⟨_, rfl⟩
          have lx_4706 := hw.2
          refine lv_aload_n hx hb dX7_bestOf_49 rfl (lv_at hl 1 rfl) ?_
          refine lv_aload_n hx hb dX7_bestOf_50 rfl (lv_at hl 1 rfl) ?_
          refine va_get (D := (dC, dI)) (ci := 7) (v := .ref rM_st) (C := RX7) (T := TX7) (N := 48) hx hb hts inX7 hown hK hP 0 rfl rfl 19 (by decide) (hts _ wd_159) (fun _ h9 => h9) rfl dX7_bestOf_51 ?_
          refine lv_iload_n hx hb dX7_bestOf_54 rfl (lv_at hl 2 rfl) ?_
          have hFc := va_freeI hD hS hA
          refine va_calli (va_runV (As := [.ref rM_st, .int p0]) (rest := [.int x_4706]) ⟨hx, hb, hml, hown, hts⟩ (tX7_worthOf_x l dC dI _ oM iM_thrown rM_tape iM_taped iM_size iM_at iM_end iM_token iM_whole iM_nameSize iM_fault iM_place iM_trouble rM_letters iM_failed iM_hasCourt rM_r fM_r kM_r rM_fresh rM_told fM_told kM_told rM_read rM_st rM_undone rM_kept iM_undos iM_images rM_fresher iM_fresherSize iM_scale iM_night rM_heardRow rM_cutRow iM_breaths iM_cutMany iM_allBreaths rM_trial rM_words iM_fewestBreaths iM_orderMany iM_orderSum iM_leastOrder rM_often iM_setMany iM_someOf iM_allOf iM_allWeight iM_enoughWeight iM_worthSum iM_firstRest iM_leastDrawn rM_st fM_st kM_st p0 b_iM_taped b_iM_size b_iM_end b_iM_failed b_iM_hasCourt b_iM_undos b_iM_images b_iM_scale b_iM_breaths b_iM_cutMany (by assumption) (by assumption) (by assumption) (by assumption) ⟨(om_83bd56b0 hk0.1), (om_c6249b78 hk0.2)⟩ (om_bd90d29b hnt)) (cwV 2 hts (wd_V wd_645 wd_646 wd_647 wd_5 (wd_c wd_648)) rfl rfl rfl dv_yX7_worthOf_2 ⟨Nat.le_of_ble_eq_true rfl, Nat.le_of_ble_eq_true rfl⟩) ⟨Pw.fb, recvX7 hK hP (q0 := 0) rfl, fun U hU hW => Pw.to hP hD hK hE hS hFc hU hW⟩ rfl rfl hl.1 rfl (lv_room (Nat.le_of_ble_eq_true rfl)) dX7_bestOf_55 ⟨Nat.le_of_ble_eq_true rfl, Nat.le_of_ble_eq_true rfl⟩) hS (fun q _ h => hFc q h) hFc (fun r u t H locs ht hvm hw hB hz1 hk1 hS => ?_)
          obtain ⟨hP, hD⟩ := Bw.goA (ws' := [(oc7 oM iM_thrown rM_tape iM_taped iM_size iM_at iM_end iM_token iM_whole iM_nameSize iM_fault iM_place iM_trouble rM_letters iM_failed iM_hasCourt rM_r rM_fresh rM_told rM_read rM_st rM_undone rM_kept iM_undos iM_images rM_fresher iM_fresherSize iM_scale iM_night rM_heardRow rM_cutRow iM_breaths iM_cutMany iM_allBreaths rM_trial rM_words iM_fewestBreaths iM_orderMany iM_orderSum iM_leastOrder rM_often iM_setMany iM_someOf iM_allOf iM_allWeight iM_enoughWeight iM_worthSum iM_firstRest iM_leastDrawn), (arI rM_r kM_r 287 fM_r), (arI rM_told kM_told 90 fM_told), (arI rM_st kM_st 90 fM_st)]) hB rfl ht hFc rfl
          clear hz1 hk1 hvm ht hB
          obtain ⟨x_4707, rfl⟩ : ∃ z, z = r := ⟨_, rfl⟩
          have lx_4707 := hw.2
          refine lv_icmp_eq (tgt := 67) hx hb dX7_bestOf_58 (by decide) (fun c_4708 => ?_) (fun c_4708 => ?_)
          · skip
            have gc_4708 := ti_eq c_4708 rfl rfl
            refine lv_aload_n hx hb dX7_bestOf_67 rfl (lv_at hl 1 rfl) ?_
            refine va_get (D := (dC, dI)) (ci := 7) (v := .ref rM_st) (C := RX7) (T := TX7) (N := 48) hx hb hts inX7 hown hK hP 0 rfl rfl 19 (by decide) (hts _ wd_159) (fun _ h9 => h9) rfl dX7_bestOf_68 ?_
            refine lv_iconst (v := 4) hx hb dX7_bestOf_71 (by decide) ?_
            refine lv_iload_n hx hb dX7_bestOf_72 rfl (lv_at hl 2 rfl) ?_
            refine lv_imul hx hb dX7_bestOf_73 ?_
            refine lv_topi (fun x_4709 ex_4709 => ?_)
            have vx_4709 : x_4709.toInt = 4 * p0.toInt := ti_mul ex_4709 kc_4 rfl (om_56b74365 hk0.1) (om_eac0354e hk0.2 s_nodes.2)
            refine lv_iload_n hx hb dX7_bestOf_74 rfl (lv_at hl 0 rfl) ?_
            refine lv_iadd hx hb dX7_bestOf_75 ?_
            refine lv_topi (fun x_4710 ex_4710 => ?_)
            have vx_4710 : x_4710.toInt = 4 * p0.toInt + z_4701.toInt := om_5d0caf0f (ti_add ex_4710 vx_4709 rfl (om_056a216f hk0.1 hi0_n_4702.1) (om_e3219df6 hk0.2 s_nodes.2 mn_p0.2 hi0_n_4702.2))
            refine va_iald hx hb hK hP 3 2 rfl rfl (ti_in vx_4710 (om_fc2812d4 hk0.1 hi0_n_4702.1) (om_b69853f0 hk0.2 s_nodes.2 mn_p0.2 hi0_n_4702.2)) dX7_bestOf_76 ?_
            refine lv_topi (fun x_4711 ex_4711 => ?_)
            have kx_4711 : (fM_st x_4710.toNatClampNeg).toInt = x_4711.toInt := by rw [ex_4711]
            have cx_4711 : (fM_st (4 * p0.toNatClampNeg + z_4701.toNatClampNeg)).toInt = x_4711.toInt := by rw [show 4 * p0.toNatClampNeg + z_4701.toNatClampNeg = x_4710.toNatClampNeg from by have q9 := ti_cl (x := x_4710) vx_4710 (om_fc2812d4 hk0.1 hi0_n_4702.1); have q_p0 := ti_cl (x := p0) rfl (om_83bd56b0 hk0.1); have q_z_4701 := ti_cl (x := z_4701) rfl (om_83bd56b0 hi0_n_4702.1); omega]; exact kx_4711
            have wx_4711 := r_st.lt p0.toNatClampNeg (z_4701.toNatClampNeg) (by have q_1 := ti_cl (x := p0) rfl (om_83bd56b0 hk0.1); have q_2 := ti_cl (x := z_4701) rfl (om_83bd56b0 hi0_n_4702.1); omega) (by have q_1 := ti_cl (x := p0) rfl (om_83bd56b0 hk0.1); have q_2 := ti_cl (x := z_4701) rfl (om_83bd56b0 hi0_n_4702.1); omega)
            have wx_4711 : 0 ≤ x_4711.toInt ∧ x_4711.toInt < p0.toInt := by have q_1 := ti_cl (x := p0) rfl (om_83bd56b0 hk0.1); have q_2 := ti_cl (x := z_4701) rfl (om_83bd56b0 hi0_n_4702.1); have q_3 := cx_4711; rw [show 4 * p0.toNatClampNeg + (z_4701.toNatClampNeg) = 4 * p0.toNatClampNeg + z_4701.toNatClampNeg from by omega] at wx_4711; omega
            exact wq_i hx hb hr 0 ⟨trivial, (by first | omega | assumption)⟩ (fun t ht hW => Bw.to hP hD hK ht hW) hS dX7_bestOf_77 hlocks
          · skip
            have gc_4708 := ti_ne c_4708 rfl rfl
            obtain ⟨x_4712, ex_4712⟩ : ∃ z : Int32, z = z_4701 + Int32.ofInt 1 := ⟨_, rfl⟩
            have vx_4712 : x_4712.toInt = z_4701.toInt + 1 := ti_add (y := 1) ex_4712 rfl kc_1 (om_4e4fce7e hi0_n_4702.1) (om_0ca29412 mn_p0.2 hi0_n_4702.2)
            refine lv_iinc (v := x_4712) (lv' := [(2, .int x_4712), (0, .ref oM), (1, .int p0)]) hx hb dX7_bestOf_61 hl (k := 0) rfl ex_4712.symm (by decide) rfl (fun ls hl => ?_)
            refine lv_goto (tgt := 31) hx hb dX7_bestOf_64 (by decide) ?_
            have ex9 : BestJ fM_r fM_told fM_st iM_scale p0.toNatClampNeg x_4712.toInt := best_go (n := z_4701.toNatClampNeg) hi1_n_4702 (by have q1 := ti_cl (x := z_4701) rfl (om_83bd56b0 hi0_n_4702.1); omega) (by have q := cx_4705; rw [show 4 * p0.toNatClampNeg + z_4701.toNatClampNeg = 4 * p0.toNatClampNeg + z_4701.toNatClampNeg from by omega]; exact q) lx_4706 lx_4707 (by omega) (by omega)
            exact ih_n_4702 x_4712 _ _ _  (by have q9 := best_lt ex9; omega) ex9 (ms_lt hm_n_4702 (om_dd4ae0bc vx_4712) (om_d5382009 hi0_n_4702.2)) hP hD hS (lv_sub hl [0, 1, 2] rfl)
      have be9 := best_ex (ft := fM_told) (sc := iM_scale) r_R r_st r_wst (by omega) (k := p0.toNatClampNeg) (by omega) (by omega)
      have mm9 : 1 ≤ (fM_r (27 + p0.toNatClampNeg)).toInt := in_p0 (by omega)
      have bf9 : BestJ fM_r fM_told fM_st iM_scale p0.toNatClampNeg (0 : Int32).toInt := best_start (by have q := kc_0; omega) be9
      clear be9
      exact key_n_4702 ((((fM_r (27 + p0.toNatClampNeg)).toInt - (0 : Int32).toInt).toNat) + 1) 0 _ _ _  ⟨(om_b1de7dbe kc_0), (om_ca2cca41 mm9 kc_0)⟩ (by first | assumption | omega | decide) (Nat.lt_add_one _) hP hD hS hl
    · skip
      have gc_4700 := ti_ne c_4700 rfl kc_2
      refine lv_bipush (v := (-2)) hx hb dX7_bestOf_26 (by decide) ?_
      exact wq_i hx hb hr 0 ⟨trivial, (by have q := kc_m2; first | omega | assumption)⟩ (fun t ht hW => Bw.to hP hD hK ht hW) hS dX7_bestOf_28 hlocks
