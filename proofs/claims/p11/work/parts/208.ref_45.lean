set_option maxHeartbeats 4000000 in
set_option maxRecDepth 100000 in
theorem tX7_weightsOf_x (l : Launch) (dC : Nat → ClassId) (dI : Nat → Nat → Nat) (sz : Nat) (oM : Nat) (iM_thrown : Int32) (rM_tape : Nat) (iM_taped : Int32) (iM_size : Int32) (iM_at : Int32) (iM_end : Int32) (iM_token : Int32) (iM_whole : Int32) (iM_nameSize : Int32) (iM_fault : Int32) (iM_place : Int32) (iM_trouble : Int32) (rM_letters : Nat) (iM_failed : Int32) (iM_hasCourt : Int32) (rM_r : Nat) (fM_r : Nat → Int32) (kM_r : ClassId) (rM_fresh : Nat) (rM_told : Nat) (rM_read : Nat) (rM_st : Nat) (rM_undone : Nat) (rM_kept : Nat) (iM_undos : Int32) (iM_images : Int32) (rM_fresher : Nat) (iM_fresherSize : Int32) (iM_scale : Int32) (iM_night : Int32) (rM_heardRow : Nat) (rM_cutRow : Nat) (iM_breaths : Int32) (iM_cutMany : Int32) (iM_allBreaths : Int32) (rM_trial : Nat) (rM_words : Nat) (iM_fewestBreaths : Int32) (iM_orderMany : Int32) (iM_orderSum : Int32) (iM_leastOrder : Int32) (rM_often : Nat) (iM_setMany : Int32) (iM_someOf : Int32) (iM_allOf : Int32) (iM_allWeight : Int64) (iM_enoughWeight : Int64) (iM_worthSum : Int64) (iM_firstRest : Int32) (iM_leastDrawn : Int32) (p0 : Int32) (b_iM_taped : 0 ≤ iM_taped.toInt ∧ iM_taped.toInt ≤ 900) (b_iM_size : 0 ≤ iM_size.toInt ∧ iM_size.toInt ≤ 900) (b_iM_end : 0 ≤ iM_end.toInt ∧ iM_end.toInt ≤ 900) (b_iM_failed : 0 ≤ iM_failed.toInt ∧ iM_failed.toInt ≤ 1) (b_iM_hasCourt : 0 ≤ iM_hasCourt.toInt ∧ iM_hasCourt.toInt ≤ 1) (b_iM_undos : 0 ≤ iM_undos.toInt ∧ iM_undos.toInt ≤ 16) (b_iM_images : 0 ≤ iM_images.toInt ∧ iM_images.toInt ≤ 3) (b_iM_scale : 1 ≤ iM_scale.toInt ∧ iM_scale.toInt ≤ 1296) (b_iM_breaths : 0 ≤ iM_breaths.toInt ∧ iM_breaths.toInt ≤ 399) (b_iM_cutMany : 0 ≤ iM_cutMany.toInt ∧ iM_cutMany.toInt ≤ 399) (r_R : ROk fM_r) (r_C : iM_hasCourt.toInt ≤ 0 ∨ (1 ≤ (fM_r 1).toInt ∧ 0 ≤ (fM_r 6).toInt ∧ (fM_r 6).toInt < (fM_r 1).toInt)) (hk0 : 0 ≤ p0.toInt ∧ p0.toInt < (fM_r 1).toInt) (hk3 : (fM_r (9 + p0.toNatClampNeg)).toInt = 3) : Met l yX7_weightsOf (Cond.code yX7_weightsOf cX7_weightsOf 4 (some .int) :: wG) ({ frames := 0, cells := 0, slots := 0, locals := 0 }) (va_Pc [.ref oM, .int p0] (Pw dC dI sz [(oc7 oM iM_thrown rM_tape iM_taped iM_size iM_at iM_end iM_token iM_whole iM_nameSize iM_fault iM_place iM_trouble rM_letters iM_failed iM_hasCourt rM_r rM_fresh rM_told rM_read rM_st rM_undone rM_kept iM_undos iM_images rM_fresher iM_fresherSize iM_scale iM_night rM_heardRow rM_cutRow iM_breaths iM_cutMany iM_allBreaths rM_trial rM_words iM_fewestBreaths iM_orderMany iM_orderSum iM_leastOrder rM_often iM_setMany iM_someOf iM_allOf iM_allWeight iM_enoughWeight iM_worthSum iM_firstRest iM_leastDrawn), (arI rM_r kM_r 287 fM_r)] [(kM_r, .int)])) (va_Qi (fun (r : Int32) (_ : Nat) => (True ∧ ((1 ≤ r.toInt ∧ r.toInt ≤ 36) ∧ r = sum32 (fun i => fM_r (45 + 4 * p0.toNatClampNeg + i)) (fM_r (27 + p0.toNatClampNeg)).toInt.toNat)) ∧ PX7_weightsOf fM_r p0 = r) (fun (_ : Nat) (t : State) => Bw dC dI (va_A [(oc7 oM iM_thrown rM_tape iM_taped iM_size iM_at iM_end iM_token iM_whole iM_nameSize iM_fault iM_place iM_trouble rM_letters iM_failed iM_hasCourt rM_r rM_fresh rM_told rM_read rM_st rM_undone rM_kept iM_undos iM_images rM_fresher iM_fresherSize iM_scale iM_night rM_heardRow rM_cutRow iM_breaths iM_cutMany iM_allBreaths rM_trial rM_words iM_fewestBreaths iM_orderMany iM_orderSum iM_leastOrder rM_often iM_setMany iM_someOf iM_allOf iM_allWeight iM_enoughWeight iM_worthSum iM_firstRest iM_leastDrawn), (arI rM_r kM_r 287 fM_r)] sz) [(oc7 oM iM_thrown rM_tape iM_taped iM_size iM_at iM_end iM_token iM_whole iM_nameSize iM_fault iM_place iM_trouble rM_letters iM_failed iM_hasCourt rM_r rM_fresh rM_told rM_read rM_st rM_undone rM_kept iM_undos iM_images rM_fresher iM_fresherSize iM_scale iM_night rM_heardRow rM_cutRow iM_breaths iM_cutMany iM_allBreaths rM_trial rM_words iM_fewestBreaths iM_orderMany iM_orderSum iM_leastOrder rM_often iM_setMany iM_someOf iM_allOf iM_allWeight iM_enoughWeight iM_worthSum iM_firstRest iM_leastDrawn), (arI rM_r kM_r 287 fM_r)] [(kM_r, .int)] t) (va_A [(oc7 oM iM_thrown rM_tape iM_taped iM_size iM_at iM_end iM_token iM_whole iM_nameSize iM_fault iM_place iM_trouble rM_letters iM_failed iM_hasCourt rM_r rM_fresh rM_told rM_read rM_st rM_undone rM_kept iM_undos iM_images rM_fresher iM_fresherSize iM_scale iM_night rM_heardRow rM_cutRow iM_breaths iM_cutMany iM_allBreaths rM_trial rM_words iM_fewestBreaths iM_orderMany iM_orderSum iM_leastOrder rM_often iM_setMany iM_someOf iM_allOf iM_allWeight iM_enoughWeight iM_worthSum iM_firstRest iM_leastDrawn), (arI rM_r kM_r 287 fM_r)] sz)) 0 0 (va_A [(oc7 oM iM_thrown rM_tape iM_taped iM_size iM_at iM_end iM_token iM_whole iM_nameSize iM_fault iM_place iM_trouble rM_letters iM_failed iM_hasCourt rM_r rM_fresh rM_told rM_read rM_st rM_undone rM_kept iM_undos iM_images rM_fresher iM_fresherSize iM_scale iM_night rM_heardRow rM_cutRow iM_breaths iM_cutMany iM_allBreaths rM_trial rM_words iM_fewestBreaths iM_orderMany iM_orderSum iM_leastOrder rM_often iM_setMany iM_someOf iM_allOf iM_allWeight iM_enoughWeight iM_worthSum iM_firstRest iM_leastDrawn), (arI rM_r kM_r 287 fM_r)] sz) := by
  refine Met.ofW (cc := cX7_weightsOf) (maxL := 4) (ret := (some .int)) pnX7 rfl ?_
  intro p e s m args below meth c s₁ B hml hv
  obtain ⟨rfl, hsz, hP, hK, hD0, hE⟩ := hv
  have hx := B.exec
  have hb := B.bytes
  have hr := B.returns
  have hts : ∀ w ∈ wG, w.before ([.ref oM, .int p0] : List Value).toArray s = true := fun w h => atoms_spec (ws := Cond.code yX7_weightsOf cX7_weightsOf 4 (some .int) :: wG) B.pre w (List.mem_cons_of_mem _ h)
  have hown : s.vm.findClass RX7 = some m.cls := own_of B.named rfl
  have hlocks := B.notSynchronized
  subst hsz
  have hD := hD0.self (sz := s.heap.size)
  generalize hAe : va_A [(oc7 oM iM_thrown rM_tape iM_taped iM_size iM_at iM_end iM_token iM_whole iM_nameSize iM_fault iM_place iM_trouble rM_letters iM_failed iM_hasCourt rM_r rM_fresh rM_told rM_read rM_st rM_undone rM_kept iM_undos iM_images rM_fresher iM_fresherSize iM_scale iM_night rM_heardRow rM_cutRow iM_breaths iM_cutMany iM_allBreaths rM_trial rM_words iM_fewestBreaths iM_orderMany iM_orderSum iM_leastOrder rM_often iM_setMany iM_someOf iM_allOf iM_allWeight iM_enoughWeight iM_worthSum iM_firstRest iM_leastDrawn), (arI rM_r kM_r 287 fM_r)] s.heap.size = A at hD hE ⊢
  have hA : ∀ q : Nat, s.heap.size ≤ q → A q := fun q h => by rw [← hAe]; exact Or.inr h
  have hS : va_S A s.heap s.heap [] := va_S.rf
  have hl := lv_entry ([.ref oM, .int p0]) (n := 4) (Nat.le_of_ble_eq_true rfl)
  rw [lg_entry_eq]
  generalize (lg_sl ([.ref oM, .int p0]) ++ List.replicate (4 - (lg_sl ([.ref oM, .int p0])).length) Slot.unset).toArray = ls at hl ⊢
  have hl : lv_has ls 4 [(0, .ref oM), (1, .int p0)] := hl
  have hG := PX7_weightsOf_eq fM_r p0
  have s_slips := r_R.slips
  have s_nodes := r_R.nodes
  have s_uns := r_R.uns
  have q_p0 := ti_cl (x := p0) rfl hk0.1
  have mn_p0 := r_R.many (27 + p0.toNatClampNeg) (Nat.le_add_right _ _) (om_6c263690 (ti_cl (x := p0) rfl hk0.1) hk0.2 s_nodes.2)
  have kn_p0 := r_R.kind (9 + p0.toNatClampNeg) (Nat.le_add_right _ _) (om_57ce868b (ti_cl (x := p0) rfl hk0.1) hk0.2 s_nodes.2)
  have in_p0 := r_R.inner p0.toNatClampNeg (om_05d4ad0a (ti_cl (x := p0) rfl hk0.1) hk0.2)
  have ix_p0 : 1 ≤ (fM_r (27 + p0.toNatClampNeg)).toInt := in_p0 (by omega)
  refine lv_iconst (v := 0) hx hb dX7_weightsOf_0 (by decide) ?_
  refine lv_istore_n (lv' := [(2, .int 0), (0, .ref oM), (1, .int p0)]) hx hb dX7_weightsOf_1 rfl hl (by decide) rfl (fun ls hl => ?_)
  refine lv_iconst (v := 0) hx hb dX7_weightsOf_2 (by decide) ?_
  refine lv_istore_n (lv' := [(3, .int 0), (2, .int 0), (0, .ref oM), (1, .int p0)]) hx hb dX7_weightsOf_3 rfl hl (by decide) rfl (fun ls hl => ?_)
  have hl := lv_sub hl (l' := [(3, .int 0), (2, .int 0), (0, .ref oM), (1, .int p0)]) [0, 1, 2, 3] rfl
  have key_n_4549 : ∀ (n_4549 : Nat) (z_4547 : Int32) (z_4548 : Int32) (H : Heap) (locs : List Loc) (ls : Array Slot), (0 ≤ z_4547.toInt ∧ z_4547.toInt ≤ 4) → (z_4547.toInt ≤ z_4548.toInt ∧ z_4548.toInt ≤ 9 * z_4547.toInt) → (z_4547.toInt ≤ (fM_r (27 + p0.toNatClampNeg)).toInt) → (z_4548 = sum32 (fun i => fM_r (45 + 4 * p0.toNatClampNeg + i)) z_4547.toNatClampNeg) → (4 - z_4547.toInt).toNat < n_4549 → (PX7_weightsOf fM_r p0 = HX7_weightsOf_0 fM_r p0 n_4549 z_4547 z_4548) → va_P (dC, dI) vwCl [(oc7 oM iM_thrown rM_tape iM_taped iM_size iM_at iM_end iM_token iM_whole iM_nameSize iM_fault iM_place iM_trouble rM_letters iM_failed iM_hasCourt rM_r rM_fresh rM_told rM_read rM_st rM_undone rM_kept iM_undos iM_images rM_fresher iM_fresherSize iM_scale iM_night rM_heardRow rM_cutRow iM_breaths iM_cutMany iM_allBreaths rM_trial rM_words iM_fewestBreaths iM_orderMany iM_orderSum iM_leastOrder rM_often iM_setMany iM_someOf iM_allOf iM_allWeight iM_enoughWeight iM_worthSum iM_firstRest iM_leastDrawn), (arI rM_r kM_r 287 fM_r)] H → va_D A [(oc7 oM iM_thrown rM_tape iM_taped iM_size iM_at iM_end iM_token iM_whole iM_nameSize iM_fault iM_place iM_trouble rM_letters iM_failed iM_hasCourt rM_r rM_fresh rM_told rM_read rM_st rM_undone rM_kept iM_undos iM_images rM_fresher iM_fresherSize iM_scale iM_night rM_heardRow rM_cutRow iM_breaths iM_cutMany iM_allBreaths rM_trial rM_words iM_fewestBreaths iM_orderMany iM_orderSum iM_leastOrder rM_often iM_setMany iM_someOf iM_allOf iM_allWeight iM_enoughWeight iM_worthSum iM_firstRest iM_leastDrawn), (arI rM_r kM_r 287 fM_r)] → va_S A s.heap H locs → lv_has ls 4 [(3, .int z_4547), (2, .int z_4548), (0, .ref oM), (1, .int p0)] → W p l e (headSpec (Cond.code yX7_weightsOf cX7_weightsOf 4 (some .int) :: wG) ({ frames := 0, cells := 0, slots := 0, locals := 0 })).room s m ([.ref oM, .int p0] : List Value).toArray below meth c H locs 0 0 (MQ below (va_Qi (fun (r : Int32) (_ : Nat) => (True ∧ ((1 ≤ r.toInt ∧ r.toInt ≤ 36) ∧ r = sum32 (fun i => fM_r (45 + 4 * p0.toNatClampNeg + i)) (fM_r (27 + p0.toNatClampNeg)).toInt.toNat)) ∧ PX7_weightsOf fM_r p0 = r) (fun (_ : Nat) (t : State) => Bw dC dI A [(oc7 oM iM_thrown rM_tape iM_taped iM_size iM_at iM_end iM_token iM_whole iM_nameSize iM_fault iM_place iM_trouble rM_letters iM_failed iM_hasCourt rM_r rM_fresh rM_told rM_read rM_st rM_undone rM_kept iM_undos iM_images rM_fresher iM_fresherSize iM_scale iM_night rM_heardRow rM_cutRow iM_breaths iM_cutMany iM_allBreaths rM_trial rM_words iM_fewestBreaths iM_orderMany iM_orderSum iM_leastOrder rM_often iM_setMany iM_someOf iM_allOf iM_allWeight iM_enoughWeight iM_worthSum iM_firstRest iM_leastDrawn), (arI rM_r kM_r 287 fM_r)] [(kM_r, .int)] t) A) ([.ref oM, .int p0] : List Value).toArray s 0 0 A) (F0 m 4 ls []) := by
    intro n_4549
    induction n_4549 with
    | zero => intro z_4547 z_4548 H locs ls hi0_n_4549 hi1_n_4549 hi2_n_4549 hi3_n_4549 hm; exact absurd hm (Nat.not_lt_zero _)
    | succ n_4549 ih_n_4549 =>
      intro z_4547 z_4548 H locs ls hi0_n_4549 hi1_n_4549 hi2_n_4549 hi3_n_4549 hm_n_4549 hG hP hD hS hl
      have hG := hG.trans (HX7_weightsOf_0_eq _ _ _ _ _)
      refine lv_iload_n hx hb dX7_weightsOf_4 rfl (lv_at hl 0 rfl) ?_
      refine lv_aload_n hx hb dX7_weightsOf_5 rfl (lv_at hl 2 rfl) ?_
      refine va_get (D := (dC, dI)) (ci := 7) (v := .ref rM_r) (C := RX7) (T := TX7) (N := 48) hx hb hts inX7 hown hK hP 0 rfl rfl 15 (by decide) (hts _ wd_155) (fun _ h9 => h9) rfl dX7_weightsOf_6 ?_
      refine lv_bipush (v := 27) hx hb dX7_weightsOf_9 (by decide) ?_
      refine lv_iload_n hx hb dX7_weightsOf_11 rfl (lv_at hl 3 rfl) ?_
      refine lv_iadd hx hb dX7_weightsOf_12 ?_
      refine lv_topi (fun x_4550 ex_4550 => ?_)
      have hG := hG.trans (lt_eq ex_4550)
      have vx_4550 : x_4550.toInt = p0.toInt + 27 := om_6c48219a (ti_add ex_4550 kc_27 rfl (om_edd3f7cf hk0.1) (om_cf6669ce hk0.2 s_nodes.2))
      refine va_iald hx hb hK hP 1 0 rfl rfl (ti_in vx_4550 (om_b4b48b7f hk0.1) (om_420abfc6 hk0.2 s_nodes.2)) dX7_weightsOf_13 ?_
      refine lv_topi (fun x_4551 ex_4551 => ?_)
      have hG := hG.trans (lt_eq ex_4551)
      have kx_4551 : (fM_r x_4550.toNatClampNeg).toInt = x_4551.toInt := by rw [ex_4551]
      have cx_4551 : (fM_r (27 + p0.toNatClampNeg)).toInt = x_4551.toInt := by rw [show 27 + p0.toNatClampNeg = x_4550.toNatClampNeg from (om_779a3124 (ti_cl (x := p0) rfl hk0.1) (ti_cl (x := x_4550) vx_4550 (om_b4b48b7f hk0.1)))]; exact kx_4551
      have sx_4551 := r_R.many x_4550.toNatClampNeg (om_ab5399c3 (ti_cl (x := x_4550) vx_4550 (om_b4b48b7f hk0.1)) hk0.1) (om_3b68d876 (ti_cl (x := x_4550) vx_4550 (om_b4b48b7f hk0.1)) hk0.2 s_nodes.2)
      refine lv_icmp_ge (tgt := 39) hx hb dX7_weightsOf_14 (by decide) (fun c_4552 => ?_) (fun c_4552 => ?_)
      · skip
        have hG := hG.trans (if_pos c_4552)
        have gc_4552 := ti_le c_4552 rfl rfl
        refine lv_iload_n hx hb dX7_weightsOf_39 rfl (lv_at hl 1 rfl) ?_
        exact wq_i hx hb hr 0 ⟨⟨trivial, ⟨by omega, by rw [show (fM_r (27 + p0.toNatClampNeg)).toInt.toNat = z_4547.toNatClampNeg from by have q1 := ti_cl (x := z_4547) rfl (by omega); omega]; exact hi3_n_4549⟩⟩, hG⟩ (fun t ht hW => Bw.to hP hD hK ht hW) hS dX7_weightsOf_40 hlocks
      · skip
        have hG := hG.trans (if_neg c_4552)
        have gc_4552 := ti_nle c_4552 rfl rfl
        refine lv_iload_n hx hb dX7_weightsOf_17 rfl (lv_at hl 1 rfl) ?_
        refine lv_aload_n hx hb dX7_weightsOf_18 rfl (lv_at hl 2 rfl) ?_
        refine va_get (D := (dC, dI)) (ci := 7) (v := .ref rM_r) (C := RX7) (T := TX7) (N := 48) hx hb hts inX7 hown hK hP 0 rfl rfl 15 (by decide) (hts _ wd_155) (fun _ h9 => h9) rfl dX7_weightsOf_19 ?_
        refine lv_bipush (v := 45) hx hb dX7_weightsOf_22 (by decide) ?_
        refine lv_iconst (v := 4) hx hb dX7_weightsOf_24 (by decide) ?_
        refine lv_iload_n hx hb dX7_weightsOf_25 rfl (lv_at hl 3 rfl) ?_
        refine lv_imul hx hb dX7_weightsOf_26 ?_
        refine lv_topi (fun x_4553 ex_4553 => ?_)
        have hG := hG.trans (lt_eq ex_4553)
        have vx_4553 : x_4553.toInt = 4 * p0.toInt := ti_mul ex_4553 kc_4 rfl (om_56b74365 hk0.1) (om_eac0354e hk0.2 s_nodes.2)
        refine lv_iadd hx hb dX7_weightsOf_27 ?_
        refine lv_topi (fun x_4554 ex_4554 => ?_)
        have hG := hG.trans (lt_eq ex_4554)
        have vx_4554 : x_4554.toInt = 4 * p0.toInt + 45 := om_702bf7ac (ti_add ex_4554 kc_45 vx_4553 (om_500c1a9b hk0.1) (om_dd0f51e3 hk0.2 s_nodes.2))
        refine lv_iload_n hx hb dX7_weightsOf_28 rfl (lv_at hl 0 rfl) ?_
        refine lv_iadd hx hb dX7_weightsOf_29 ?_
        refine lv_topi (fun x_4555 ex_4555 => ?_)
        have hG := hG.trans (lt_eq ex_4555)
        have vx_4555 : x_4555.toInt = 4 * p0.toInt + z_4547.toInt + 45 := om_0ab12ad6 (ti_add ex_4555 vx_4554 rfl (om_97113e8e hk0.1 hi0_n_4549.1) (om_80d40543 hk0.2 s_nodes.2 hi0_n_4549.2))
        refine va_iald hx hb hK hP 1 0 rfl rfl (ti_in vx_4555 (om_a0b7f4d9 hk0.1 hi0_n_4549.1) (om_34e445bb hk0.2 s_nodes.2 hi0_n_4549.2)) dX7_weightsOf_30 ?_
        refine lv_topi (fun x_4556 ex_4556 => ?_)
        have hG := hG.trans (lt_eq ex_4556)
        have kx_4556 : (fM_r x_4555.toNatClampNeg).toInt = x_4556.toInt := by rw [ex_4556]
        have cx_4556 : (fM_r (45 + 4 * p0.toNatClampNeg + z_4547.toNatClampNeg)).toInt = x_4556.toInt := by rw [show 45 + 4 * p0.toNatClampNeg + z_4547.toNatClampNeg = x_4555.toNatClampNeg from (om_3ba77439 (ti_cl (x := p0) rfl hk0.1) (ti_cl (x := z_4547) rfl hi0_n_4549.1) (ti_cl (x := x_4555) vx_4555 (om_a0b7f4d9 hk0.1 hi0_n_4549.1)))]; exact kx_4556
        have sx_4556 := r_R.wts x_4555.toNatClampNeg (om_9d4b3423 (ti_cl (x := x_4555) vx_4555 (om_a0b7f4d9 hk0.1 hi0_n_4549.1)) hk0.1 hi0_n_4549.1) (om_99207359 (ti_cl (x := x_4555) vx_4555 (om_a0b7f4d9 hk0.1 hi0_n_4549.1)) hk0.2 s_nodes.2 mn_p0.2 cx_4551 gc_4552)
        have xx_4556 : 1 ≤ x_4556.toInt := row_ch r_R (ti_cl (x := p0) rfl hk0.1) (ti_cl (x := z_4547) rfl hi0_n_4549.1) hk0.2 hk3 (om_644b432c cx_4551 gc_4552) (om_798a0efc (ti_cl (x := p0) rfl hk0.1) (ti_cl (x := z_4547) rfl hi0_n_4549.1)) cx_4556
        refine lv_iadd hx hb dX7_weightsOf_31 ?_
        refine lv_topi (fun x_4557 ex_4557 => ?_)
        have hG := hG.trans (lt_eq ex_4557)
        have vx_4557 : x_4557.toInt = x_4556.toInt + z_4548.toInt := om_73fe24c2 (ti_add ex_4557 rfl rfl (om_d91c9d42 hi1_n_4549.1 hi1_n_4549.2 xx_4556) (om_243ebd5d hi0_n_4549.2 hi1_n_4549.2 kx_4556 sx_4556.2))
        refine lv_istore_n (lv' := [(2, .int x_4557), (3, .int z_4547), (0, .ref oM), (1, .int p0)]) hx hb dX7_weightsOf_32 rfl hl (by decide) rfl (fun ls hl => ?_)
        obtain ⟨x_4558, ex_4558⟩ : ∃ z : Int32, z = z_4547 + Int32.ofInt 1 := ⟨_, rfl⟩
        have hG := hG.trans (lt_eq ex_4558)
        have vx_4558 : x_4558.toInt = z_4547.toInt + 1 := ti_add (y := 1) ex_4558 rfl kc_1 (om_4e4fce7e hi0_n_4549.1) (om_bae2951a hi0_n_4549.2)
        refine lv_iinc (v := x_4558) (lv' := [(3, .int x_4558), (2, .int x_4557), (0, .ref oM), (1, .int p0)]) hx hb dX7_weightsOf_33 hl (k := 1) rfl ex_4558.symm (by decide) rfl (fun ls hl => ?_)
        refine lv_goto (tgt := 4) hx hb dX7_weightsOf_36 (by decide) ?_
        exact ih_n_4549 x_4558 x_4557 _ _ _  ⟨(om_83b90de5 hi0_n_4549.1 vx_4558), (om_8267bec5 mn_p0.2 cx_4551 gc_4552 vx_4558)⟩ ⟨(om_e4609cf4 hi1_n_4549.1 xx_4556 vx_4557 vx_4558), (om_e30276bb hi1_n_4549.2 kx_4556 sx_4556.2 vx_4557 vx_4558)⟩ (om_1ad1f819 cx_4551 gc_4552 vx_4558) (sum_step (z := x_4556) hi3_n_4549 ex_4557 (by have q := cx_4556; rw [show 45 + 4 * p0.toNatClampNeg + z_4547.toNatClampNeg = 45 + 4 * p0.toNatClampNeg + z_4547.toNatClampNeg from by omega]; exact q) (by have q1 := ti_cl (x := x_4558) vx_4558 (om_9548a8fd hi0_n_4549.1); have q2 := ti_cl (x := z_4547) rfl hi0_n_4549.1; omega)) (ms_lt hm_n_4549 (om_ed22490e vx_4558) (om_e4be4046 mn_p0.2 cx_4551 gc_4552)) hG hP hD hS (lv_sub hl [0, 1, 2, 3] rfl)
  exact key_n_4549 (((4 - (0 : Int32).toInt).toNat) + 1) 0 0 _ _ _  ⟨(om_b1de7dbe kc_0), (om_bebe011a kc_0)⟩ ⟨om_1cb5f934, (om_59234406 kc_0)⟩ (om_2dfe280d mn_p0.1 kc_0) (by first | (have q0 := kc_0; have q1 := kc_1; omega) | decide | assumption | exact rfl) (Nat.lt_add_one _) hG hP hD hS hl
set_option maxHeartbeats 4000000 in
set_option maxRecDepth 100000 in
theorem tX7_weightOf_x (l : Launch) (dC : Nat → ClassId) (dI : Nat → Nat → Nat) (sz : Nat) (oM : Nat) (iM_thrown : Int32) (rM_tape : Nat) (iM_taped : Int32) (iM_size : Int32) (iM_at : Int32) (iM_end : Int32) (iM_token : Int32) (iM_whole : Int32) (iM_nameSize : Int32) (iM_fault : Int32) (iM_place : Int32) (iM_trouble : Int32) (rM_letters : Nat) (iM_failed : Int32) (iM_hasCourt : Int32) (rM_r : Nat) (fM_r : Nat → Int32) (kM_r : ClassId) (rM_fresh : Nat) (rM_told : Nat) (fM_told : Nat → Int32) (kM_told : ClassId) (rM_read : Nat) (rM_st : Nat) (rM_undone : Nat) (rM_kept : Nat) (iM_undos : Int32) (iM_images : Int32) (rM_fresher : Nat) (iM_fresherSize : Int32) (iM_scale : Int32) (iM_night : Int32) (rM_heardRow : Nat) (rM_cutRow : Nat) (iM_breaths : Int32) (iM_cutMany : Int32) (iM_allBreaths : Int32) (rM_trial : Nat) (rM_words : Nat) (iM_fewestBreaths : Int32) (iM_orderMany : Int32) (iM_orderSum : Int32) (iM_leastOrder : Int32) (rM_often : Nat) (iM_setMany : Int32) (iM_someOf : Int32) (iM_allOf : Int32) (iM_allWeight : Int64) (iM_enoughWeight : Int64) (iM_worthSum : Int64) (iM_firstRest : Int32) (iM_leastDrawn : Int32) (p0 : Int32) (p1 : Int32) (b_iM_taped : 0 ≤ iM_taped.toInt ∧ iM_taped.toInt ≤ 900) (b_iM_size : 0 ≤ iM_size.toInt ∧ iM_size.toInt ≤ 900) (b_iM_end : 0 ≤ iM_end.toInt ∧ iM_end.toInt ≤ 900) (b_iM_failed : 0 ≤ iM_failed.toInt ∧ iM_failed.toInt ≤ 1) (b_iM_hasCourt : 0 ≤ iM_hasCourt.toInt ∧ iM_hasCourt.toInt ≤ 1) (b_iM_undos : 0 ≤ iM_undos.toInt ∧ iM_undos.toInt ≤ 16) (b_iM_images : 0 ≤ iM_images.toInt ∧ iM_images.toInt ≤ 3) (b_iM_scale : 1 ≤ iM_scale.toInt ∧ iM_scale.toInt ≤ 1296) (b_iM_breaths : 0 ≤ iM_breaths.toInt ∧ iM_breaths.toInt ≤ 399) (b_iM_cutMany : 0 ≤ iM_cutMany.toInt ∧ iM_cutMany.toInt ≤ 399) (r_R : ROk fM_r) (r_C : iM_hasCourt.toInt ≤ 0 ∨ (1 ≤ (fM_r 1).toInt ∧ 0 ≤ (fM_r 6).toInt ∧ (fM_r 6).toInt < (fM_r 1).toInt)) (r_told : RowOk fM_r fM_told) (hk0 : 0 ≤ p0.toInt ∧ p0.toInt < (fM_r 1).toInt) : Met l yX7_weightOf (Cond.code yX7_weightOf cX7_weightOf 4 (some .int) :: wG) ({ frames := 0, cells := 0, slots := 0, locals := 0 }) (va_Pc [.ref oM, .int p0, .int p1] (Pw dC dI sz [(oc7 oM iM_thrown rM_tape iM_taped iM_size iM_at iM_end iM_token iM_whole iM_nameSize iM_fault iM_place iM_trouble rM_letters iM_failed iM_hasCourt rM_r rM_fresh rM_told rM_read rM_st rM_undone rM_kept iM_undos iM_images rM_fresher iM_fresherSize iM_scale iM_night rM_heardRow rM_cutRow iM_breaths iM_cutMany iM_allBreaths rM_trial rM_words iM_fewestBreaths iM_orderMany iM_orderSum iM_leastOrder rM_often iM_setMany iM_someOf iM_allOf iM_allWeight iM_enoughWeight iM_worthSum iM_firstRest iM_leastDrawn), (arI rM_r kM_r 287 fM_r), (arI rM_told kM_told 90 fM_told)] [(kM_r, .int), (kM_told, .int)])) (va_Qi (fun (r : Int32) (_ : Nat) => (True ∧ ((0 ≤ r.toInt ∧ r.toInt ≤ 9) ∧ r = wOf fM_r fM_told p0.toNatClampNeg p1 (fM_r (27 + p0.toNatClampNeg)).toInt.toNat 0)) ∧ PX7_weightOf fM_r fM_told p0 p1 = r) (fun (_ : Nat) (t : State) => Bw dC dI (va_A [(oc7 oM iM_thrown rM_tape iM_taped iM_size iM_at iM_end iM_token iM_whole iM_nameSize iM_fault iM_place iM_trouble rM_letters iM_failed iM_hasCourt rM_r rM_fresh rM_told rM_read rM_st rM_undone rM_kept iM_undos iM_images rM_fresher iM_fresherSize iM_scale iM_night rM_heardRow rM_cutRow iM_breaths iM_cutMany iM_allBreaths rM_trial rM_words iM_fewestBreaths iM_orderMany iM_orderSum iM_leastOrder rM_often iM_setMany iM_someOf iM_allOf iM_allWeight iM_enoughWeight iM_worthSum iM_firstRest iM_leastDrawn), (arI rM_r kM_r 287 fM_r), (arI rM_told kM_told 90 fM_told)] sz) [(oc7 oM iM_thrown rM_tape iM_taped iM_size iM_at iM_end iM_token iM_whole iM_nameSize iM_fault iM_place iM_trouble rM_letters iM_failed iM_hasCourt rM_r rM_fresh rM_told rM_read rM_st rM_undone rM_kept iM_undos iM_images rM_fresher iM_fresherSize iM_scale iM_night rM_heardRow rM_cutRow iM_breaths iM_cutMany iM_allBreaths rM_trial rM_words iM_fewestBreaths iM_orderMany iM_orderSum iM_leastOrder rM_often iM_setMany iM_someOf iM_allOf iM_allWeight iM_enoughWeight iM_worthSum iM_firstRest iM_leastDrawn), (arI rM_r kM_r 287 fM_r), (arI rM_told kM_told 90 fM_told)] [(kM_r, .int), (kM_told, .int)] t) (va_A [(oc7 oM iM_thrown rM_tape iM_taped iM_size iM_at iM_end iM_token iM_whole iM_nameSize iM_fault iM_place iM_trouble rM_letters iM_failed iM_hasCourt rM_r rM_fresh rM_told rM_read rM_st rM_undone rM_kept iM_undos iM_images rM_fresher iM_fresherSize iM_scale iM_night rM_heardRow rM_cutRow iM_breaths iM_cutMany iM_allBreaths rM_trial rM_words iM_fewestBreaths iM_orderMany iM_orderSum iM_leastOrder rM_often iM_setMany iM_someOf iM_allOf iM_allWeight iM_enoughWeight iM_worthSum iM_firstRest iM_leastDrawn), (arI rM_r kM_r 287 fM_r), (arI rM_told kM_told 90 fM_told)] sz)) 0 0 (va_A [(oc7 oM iM_thrown rM_tape iM_taped iM_size iM_at iM_end iM_token iM_whole iM_nameSize iM_fault iM_place iM_trouble rM_letters iM_failed iM_hasCourt rM_r rM_fresh rM_told rM_read rM_st rM_undone rM_kept iM_undos iM_images rM_fresher iM_fresherSize iM_scale iM_night rM_heardRow rM_cutRow iM_breaths iM_cutMany iM_allBreaths rM_trial rM_words iM_fewestBreaths iM_orderMany iM_orderSum iM_leastOrder rM_often iM_setMany iM_someOf iM_allOf iM_allWeight iM_enoughWeight iM_worthSum iM_firstRest iM_leastDrawn), (arI rM_r kM_r 287 fM_r), (arI rM_told kM_told 90 fM_told)] sz) := by
  refine Met.ofW (cc := cX7_weightOf) (maxL := 4) (ret := (some .int)) pnX7 rfl ?_
  intro p e s m args below meth c s₁ B hml hv
  obtain ⟨rfl, hsz, hP, hK, hD0, hE⟩ := hv
  have hx := B.exec
  have hb := B.bytes
  have hr := B.returns
  have hts : ∀ w ∈ wG, w.before ([.ref oM, .int p0, .int p1] : List Value).toArray s = true := fun w h => atoms_spec (ws := Cond.code yX7_weightOf cX7_weightOf 4 (some .int) :: wG) B.pre w (List.mem_cons_of_mem _ h)
  have hown : s.vm.findClass RX7 = some m.cls := own_of B.named rfl
  have hlocks := B.notSynchronized
  subst hsz
  have hD := hD0.self (sz := s.heap.size)
  generalize hAe : va_A [(oc7 oM iM_thrown rM_tape iM_taped iM_size iM_at iM_end iM_token iM_whole iM_nameSize iM_fault iM_place iM_trouble rM_letters iM_failed iM_hasCourt rM_r rM_fresh rM_told rM_read rM_st rM_undone rM_kept iM_undos iM_images rM_fresher iM_fresherSize iM_scale iM_night rM_heardRow rM_cutRow iM_breaths iM_cutMany iM_allBreaths rM_trial rM_words iM_fewestBreaths iM_orderMany iM_orderSum iM_leastOrder rM_often iM_setMany iM_someOf iM_allOf iM_allWeight iM_enoughWeight iM_worthSum iM_firstRest iM_leastDrawn), (arI rM_r kM_r 287 fM_r), (arI rM_told kM_told 90 fM_told)] s.heap.size = A at hD hE ⊢
  have hA : ∀ q : Nat, s.heap.size ≤ q → A q := fun q h => by rw [← hAe]; exact Or.inr h
  have hS : va_S A s.heap s.heap [] := va_S.rf
  have hl := lv_entry ([.ref oM, .int p0, .int p1]) (n := 4) (Nat.le_of_ble_eq_true rfl)
  rw [lg_entry_eq]
  generalize (lg_sl ([.ref oM, .int p0, .int p1]) ++ List.replicate (4 - (lg_sl ([.ref oM, .int p0, .int p1])).length) Slot.unset).toArray = ls at hl ⊢
  have hl : lv_has ls 4 [(0, .ref oM), (1, .int p0), (2, .int p1)] := hl
  have hG := PX7_weightOf_eq fM_r fM_told p0 p1
  have rg_p0 := fb_rng p0
  have rg_p1 := fb_rng p1
  have s_slips := r_R.slips
  have s_nodes := r_R.nodes
  have s_uns := r_R.uns
  have q_p0 := ti_cl (x := p0) rfl hk0.1
  have mn_p0 := r_R.many (27 + p0.toNatClampNeg) (Nat.le_add_right _ _) (om_6c263690 (ti_cl (x := p0) rfl hk0.1) hk0.2 s_nodes.2)
  have kn_p0 := r_R.kind (9 + p0.toNatClampNeg) (Nat.le_add_right _ _) (om_57ce868b (ti_cl (x := p0) rfl hk0.1) hk0.2 s_nodes.2)
  have in_p0 := r_R.inner p0.toNatClampNeg (om_05d4ad0a (ti_cl (x := p0) rfl hk0.1) hk0.2)
  refine lv_iconst (v := 0) hx hb dX7_weightOf_0 (by decide) ?_
  refine lv_istore_n (lv' := [(3, .int 0), (0, .ref oM), (1, .int p0), (2, .int p1)]) hx hb dX7_weightOf_1 rfl hl (by decide) rfl (fun ls hl => ?_)
  have hl := lv_sub hl (l' := [(3, .int 0), (0, .ref oM), (1, .int p0), (2, .int p1)]) [0, 1, 2, 3] rfl
  have key_n_4574 : ∀ (n_4574 : Nat) (z_4573 : Int32) (H : Heap) (locs : List Loc) (ls : Array Slot), (0 ≤ z_4573.toInt ∧ z_4573.toInt ≤ 4) → (wOf fM_r fM_told p0.toNatClampNeg p1 (fM_r (27 + p0.toNatClampNeg)).toInt.toNat 0 = wOf fM_r fM_told p0.toNatClampNeg p1 ((fM_r (27 + p0.toNatClampNeg)).toInt.toNat - z_4573.toNatClampNeg) z_4573.toNatClampNeg) → (2147483647 - z_4573.toInt).toNat < n_4574 → (PX7_weightOf fM_r fM_told p0 p1 = HX7_weightOf_0 fM_r fM_told p0 p1 n_4574 z_4573) → va_P (dC, dI) vwCl [(oc7 oM iM_thrown rM_tape iM_taped iM_size iM_at iM_end iM_token iM_whole iM_nameSize iM_fault iM_place iM_trouble rM_letters iM_failed iM_hasCourt rM_r rM_fresh rM_told rM_read rM_st rM_undone rM_kept iM_undos iM_images rM_fresher iM_fresherSize iM_scale iM_night rM_heardRow rM_cutRow iM_breaths iM_cutMany iM_allBreaths rM_trial rM_words iM_fewestBreaths iM_orderMany iM_orderSum iM_leastOrder rM_often iM_setMany iM_someOf iM_allOf iM_allWeight iM_enoughWeight iM_worthSum iM_firstRest iM_leastDrawn), (arI rM_r kM_r 287 fM_r), (arI rM_told kM_told 90 fM_told)] H → va_D A [(oc7 oM iM_thrown rM_tape iM_taped iM_size iM_at iM_end iM_token iM_whole iM_nameSize iM_fault iM_place iM_trouble rM_letters iM_failed iM_hasCourt rM_r rM_fresh rM_told rM_read rM_st rM_undone rM_kept iM_undos iM_images rM_fresher iM_fresherSize iM_scale iM_night rM_heardRow rM_cutRow iM_breaths iM_cutMany iM_allBreaths rM_trial rM_words iM_fewestBreaths iM_orderMany iM_orderSum iM_leastOrder rM_often iM_setMany iM_someOf iM_allOf iM_allWeight iM_enoughWeight iM_worthSum iM_firstRest iM_leastDrawn), (arI rM_r kM_r 287 fM_r), (arI rM_told kM_told 90 fM_told)] → va_S A s.heap H locs → lv_has ls 4 [(3, .int z_4573), (0, .ref oM), (1, .int p0), (2, .int p1)] → W p l e (headSpec (Cond.code yX7_weightOf cX7_weightOf 4 (some .int) :: wG) ({ frames := 0, cells := 0, slots := 0, locals := 0 })).room s m ([.ref oM, .int p0, .int p1] : List Value).toArray below meth c H locs 0 0 (MQ below (va_Qi (fun (r : Int32) (_ : Nat) => (True ∧ ((0 ≤ r.toInt ∧ r.toInt ≤ 9) ∧ r = wOf fM_r fM_told p0.toNatClampNeg p1 (fM_r (27 + p0.toNatClampNeg)).toInt.toNat 0)) ∧ PX7_weightOf fM_r fM_told p0 p1 = r) (fun (_ : Nat) (t : State) => Bw dC dI A [(oc7 oM iM_thrown rM_tape iM_taped iM_size iM_at iM_end iM_token iM_whole iM_nameSize iM_fault iM_place iM_trouble rM_letters iM_failed iM_hasCourt rM_r rM_fresh rM_told rM_read rM_st rM_undone rM_kept iM_undos iM_images rM_fresher iM_fresherSize iM_scale iM_night rM_heardRow rM_cutRow iM_breaths iM_cutMany iM_allBreaths rM_trial rM_words iM_fewestBreaths iM_orderMany iM_orderSum iM_leastOrder rM_often iM_setMany iM_someOf iM_allOf iM_allWeight iM_enoughWeight iM_worthSum iM_firstRest iM_leastDrawn), (arI rM_r kM_r 287 fM_r), (arI rM_told kM_told 90 fM_told)] [(kM_r, .int), (kM_told, .int)] t) A) ([.ref oM, .int p0, .int p1] : List Value).toArray s 0 0 A) (F0 m 2 ls []) := by
    intro n_4574
    induction n_4574 with
    | zero => intro z_4573 H locs ls hi0_n_4574 hi1_n_4574 hm; exact absurd hm (Nat.not_lt_zero _)
    | succ n_4574 ih_n_4574 =>
      intro z_4573 H locs ls hi0_n_4574 hi1_n_4574 hm_n_4574 hG hP hD hS hl
      have hG := hG.trans (HX7_weightOf_0_eq _ _ _ _ _ _)
      have rg_z_4573 := fb_rng z_4573
      refine lv_iload_n hx hb dX7_weightOf_2 rfl (lv_at hl 0 rfl) ?_
      refine lv_aload_n hx hb dX7_weightOf_3 rfl (lv_at hl 1 rfl) ?_
      refine va_get (D := (dC, dI)) (ci := 7) (v := .ref rM_r) (C := RX7) (T := TX7) (N := 48) hx hb hts inX7 hown hK hP 0 rfl rfl 15 (by decide) (hts _ wd_155) (fun _ h9 => h9) rfl dX7_weightOf_4 ?_
      refine lv_bipush (v := 27) hx hb dX7_weightOf_7 (by decide) ?_
      refine lv_iload_n hx hb dX7_weightOf_9 rfl (lv_at hl 2 rfl) ?_
      refine lv_iadd hx hb dX7_weightOf_10 ?_
      refine lv_topi (fun x_4575 ex_4575 => ?_)
      have hG := hG.trans (lt_eq ex_4575)
      have vx_4575 : x_4575.toInt = p0.toInt + 27 := om_6c48219a (ti_add ex_4575 kc_27 rfl (om_edd3f7cf hk0.1) (om_cf6669ce hk0.2 s_nodes.2))
      refine va_iald hx hb hK hP 1 0 rfl rfl (ti_in vx_4575 (om_b4b48b7f hk0.1) (om_420abfc6 hk0.2 s_nodes.2)) dX7_weightOf_11 ?_
      refine lv_topi (fun x_4576 ex_4576 => ?_)
      have hG := hG.trans (lt_eq ex_4576)
      have rg_x_4576 := fb_rng x_4576
      have kx_4576 : (fM_r x_4575.toNatClampNeg).toInt = x_4576.toInt := by rw [ex_4576]
      have cx_4576 : (fM_r (27 + p0.toNatClampNeg)).toInt = x_4576.toInt := by rw [show 27 + p0.toNatClampNeg = x_4575.toNatClampNeg from (om_779a3124 (ti_cl (x := p0) rfl hk0.1) (ti_cl (x := x_4575) vx_4575 (om_b4b48b7f hk0.1)))]; exact kx_4576
      have sx_4576 := r_R.many x_4575.toNatClampNeg (om_ab5399c3 (ti_cl (x := x_4575) vx_4575 (om_b4b48b7f hk0.1)) hk0.1) (om_3b68d876 (ti_cl (x := x_4575) vx_4575 (om_b4b48b7f hk0.1)) hk0.2 s_nodes.2)
      refine lv_icmp_ge (tgt := 49) hx hb dX7_weightOf_12 (by decide) (fun c_4577 => ?_) (fun c_4577 => ?_)
      · skip
        have hG := hG.trans (if_pos c_4577)
        have gc_4577 := ti_le c_4577 rfl rfl
        refine lv_iconst (v := 0) hx hb dX7_weightOf_49 (by decide) ?_
        exact wq_i hx hb hr 0 ⟨⟨trivial, ⟨by decide, wOf_out hi1_n_4574 (by have q2 := ti_cl (x := z_4573) rfl (by omega); omega)⟩⟩, hG⟩ (fun t ht hW => Bw.to hP hD hK ht hW) hS dX7_weightOf_50 hlocks
      · skip
        have hG := hG.trans (if_neg c_4577)
        have gc_4577 := ti_nle c_4577 rfl rfl
        refine lv_aload_n hx hb dX7_weightOf_15 rfl (lv_at hl 1 rfl) ?_
        refine va_get (D := (dC, dI)) (ci := 7) (v := .ref rM_told) (C := RX7) (T := TX7) (N := 48) hx hb hts inX7 hown hK hP 0 rfl rfl 17 (by decide) (hts _ wd_157) (fun _ h9 => h9) rfl dX7_weightOf_16 ?_
        refine lv_iconst (v := 4) hx hb dX7_weightOf_19 (by decide) ?_
        refine lv_iload_n hx hb dX7_weightOf_20 rfl (lv_at hl 2 rfl) ?_
        refine lv_imul hx hb dX7_weightOf_21 ?_
        refine lv_topi (fun x_4578 ex_4578 => ?_)
        have hG := hG.trans (lt_eq ex_4578)
        have vx_4578 : x_4578.toInt = 4 * p0.toInt := ti_mul ex_4578 kc_4 rfl (om_56b74365 hk0.1) (om_eac0354e hk0.2 s_nodes.2)
        refine lv_iload_n hx hb dX7_weightOf_22 rfl (lv_at hl 0 rfl) ?_
        refine lv_iadd hx hb dX7_weightOf_23 ?_
        refine lv_topi (fun x_4579 ex_4579 => ?_)
        have hG := hG.trans (lt_eq ex_4579)
        have vx_4579 : x_4579.toInt = 4 * p0.toInt + z_4573.toInt := om_5d0caf0f (ti_add ex_4579 vx_4578 rfl (om_056a216f hk0.1 hi0_n_4574.1) (om_cddd17b5 hk0.2 s_nodes.2 hi0_n_4574.2))
        refine va_iald hx hb hK hP 2 1 rfl rfl (ti_in vx_4579 (om_fc2812d4 hk0.1 hi0_n_4574.1) (om_50b52c69 hk0.2 s_nodes.2 hi0_n_4574.2)) dX7_weightOf_24 ?_
        refine lv_topi (fun x_4580 ex_4580 => ?_)
        have hG := hG.trans (lt_eq ex_4580)
        have rg_x_4580 := fb_rng x_4580
        have kx_4580 : (fM_told x_4579.toNatClampNeg).toInt = x_4580.toInt := by rw [ex_4580]
        have cx_4580 : (fM_told (4 * p0.toNatClampNeg + z_4573.toNatClampNeg)).toInt = x_4580.toInt := by rw [show 4 * p0.toNatClampNeg + z_4573.toNatClampNeg = x_4579.toNatClampNeg from (om_4de36627 (ti_cl (x := p0) rfl hk0.1) (ti_cl (x := z_4573) rfl hi0_n_4574.1) (ti_cl (x := x_4579) vx_4579 (om_fc2812d4 hk0.1 hi0_n_4574.1)))]; exact kx_4580
        have wx_4580 : 0 ≤ x_4580.toInt ∧ x_4580.toInt < p0.toInt := row_lt r_told (i := z_4573.toNatClampNeg) (ti_cl (x := p0) rfl hk0.1) (ti_cl (x := z_4573) rfl hi0_n_4574.1) hk0.2 (om_644b432c cx_4576 gc_4577) (om_24300f0a (ti_cl (x := p0) rfl hk0.1) (ti_cl (x := z_4573) rfl hi0_n_4574.1)) cx_4580
        refine lv_iload_n hx hb dX7_weightOf_25 rfl (lv_at hl 3 rfl) ?_
        refine lv_icmp_ne (tgt := 43) hx hb dX7_weightOf_26 (by decide) (fun c_4581 => ?_) (fun c_4581 => ?_)
        · skip
          have hG := hG.trans (if_neg c_4581)
          have gc_4581 := ti_ne c_4581 rfl rfl
          obtain ⟨x_4582, ex_4582⟩ : ∃ z : Int32, z = z_4573 + Int32.ofInt 1 := ⟨_, rfl⟩
          have hG := hG.trans (lt_eq ex_4582)
          have vx_4582 : x_4582.toInt = z_4573.toInt + 1 := ti_add (y := 1) ex_4582 rfl kc_1 (om_4e4fce7e hi0_n_4574.1) (om_bae2951a hi0_n_4574.2)
          refine lv_iinc (v := x_4582) (lv' := [(3, .int x_4582), (0, .ref oM), (1, .int p0), (2, .int p1)]) hx hb dX7_weightOf_43 hl (k := 0) rfl ex_4582.symm (by decide) rfl (fun ls hl => ?_)
          refine lv_goto (tgt := 2) hx hb dX7_weightOf_46 (by decide) ?_
          exact ih_n_4574 x_4582 _ _ _  ⟨(om_83b90de5 hi0_n_4574.1 vx_4582), (om_8267bec5 mn_p0.2 cx_4576 gc_4577 vx_4582)⟩ (wOf_next (z := x_4580) hi1_n_4574 (by have q := cx_4580; rw [show 4 * p0.toNatClampNeg + z_4573.toNatClampNeg = 4 * p0.toNatClampNeg + z_4573.toNatClampNeg from by omega]; exact q) (by omega) (by have q2 := ti_cl (x := z_4573) rfl hi0_n_4574.1; omega) (by have q1 := ti_cl (x := x_4582) vx_4582 (om_9548a8fd hi0_n_4574.1); have q2 := ti_cl (x := z_4573) rfl hi0_n_4574.1; omega)) (ms_lt hm_n_4574 (om_b9393183 vx_4582) (om_41b2db40 hi0_n_4574.2)) hG hP hD hS (lv_sub hl [0, 1, 2, 3] rfl)
        · skip
          have hG := hG.trans (if_pos c_4581)
          have gc_4581 := ti_eq c_4581 rfl rfl
          refine lv_aload_n hx hb dX7_weightOf_29 rfl (lv_at hl 1 rfl) ?_
          refine va_get (D := (dC, dI)) (ci := 7) (v := .ref rM_r) (C := RX7) (T := TX7) (N := 48) hx hb hts inX7 hown hK hP 0 rfl rfl 15 (by decide) (hts _ wd_155) (fun _ h9 => h9) rfl dX7_weightOf_30 ?_
          refine lv_bipush (v := 45) hx hb dX7_weightOf_33 (by decide) ?_
          refine lv_iconst (v := 4) hx hb dX7_weightOf_35 (by decide) ?_
          refine lv_iload_n hx hb dX7_weightOf_36 rfl (lv_at hl 2 rfl) ?_
          refine lv_imul hx hb dX7_weightOf_37 ?_
          refine lv_topi (fun x_4583 ex_4583 => ?_)
          have hG := hG.trans (lt_eq ex_4583)
          have vx_4583 : x_4583.toInt = 4 * p0.toInt := ti_mul ex_4583 kc_4 rfl (om_56b74365 hk0.1) (om_eac0354e hk0.2 s_nodes.2)
          refine lv_iadd hx hb dX7_weightOf_38 ?_
          refine lv_topi (fun x_4584 ex_4584 => ?_)
          have hG := hG.trans (lt_eq ex_4584)
          have vx_4584 : x_4584.toInt = 4 * p0.toInt + 45 := om_702bf7ac (ti_add ex_4584 kc_45 vx_4583 (om_500c1a9b hk0.1) (om_dd0f51e3 hk0.2 s_nodes.2))
          refine lv_iload_n hx hb dX7_weightOf_39 rfl (lv_at hl 0 rfl) ?_
          refine lv_iadd hx hb dX7_weightOf_40 ?_
          refine lv_topi (fun x_4585 ex_4585 => ?_)
          have hG := hG.trans (lt_eq ex_4585)
          have vx_4585 : x_4585.toInt = 4 * p0.toInt + z_4573.toInt + 45 := om_0ab12ad6 (ti_add ex_4585 vx_4584 rfl (om_97113e8e hk0.1 hi0_n_4574.1) (om_80d40543 hk0.2 s_nodes.2 hi0_n_4574.2))
          refine va_iald hx hb hK hP 1 0 rfl rfl (ti_in vx_4585 (om_a0b7f4d9 hk0.1 hi0_n_4574.1) (om_34e445bb hk0.2 s_nodes.2 hi0_n_4574.2)) dX7_weightOf_41 ?_
          refine lv_topi (fun x_4586 ex_4586 => ?_)
          have hG := hG.trans (lt_eq ex_4586)
          have rg_x_4586 := fb_rng x_4586
          have kx_4586 : (fM_r x_4585.toNatClampNeg).toInt = x_4586.toInt := by rw [ex_4586]
          have cx_4586 : (fM_r (45 + 4 * p0.toNatClampNeg + z_4573.toNatClampNeg)).toInt = x_4586.toInt := by rw [show 45 + 4 * p0.toNatClampNeg + z_4573.toNatClampNeg = x_4585.toNatClampNeg from (om_3ba77439 (ti_cl (x := p0) rfl hk0.1) (ti_cl (x := z_4573) rfl hi0_n_4574.1) (ti_cl (x := x_4585) vx_4585 (om_a0b7f4d9 hk0.1 hi0_n_4574.1)))]; exact kx_4586
          have sx_4586 := r_R.wts x_4585.toNatClampNeg (om_9d4b3423 (ti_cl (x := x_4585) vx_4585 (om_a0b7f4d9 hk0.1 hi0_n_4574.1)) hk0.1 hi0_n_4574.1) (om_99207359 (ti_cl (x := x_4585) vx_4585 (om_a0b7f4d9 hk0.1 hi0_n_4574.1)) hk0.2 s_nodes.2 mn_p0.2 cx_4576 gc_4577)
          exact wq_i hx hb hr 0 ⟨⟨trivial, ⟨by omega, wOf_hit (z := x_4580) hi1_n_4574 (by have q := cx_4580; rw [show 4 * p0.toNatClampNeg + z_4573.toNatClampNeg = 4 * p0.toNatClampNeg + z_4573.toNatClampNeg from by omega]; exact q) (by omega) (by have q2 := ti_cl (x := z_4573) rfl (by omega); omega) (by have q := cx_4586; rw [show 45 + 4 * p0.toNatClampNeg + z_4573.toNatClampNeg = 45 + 4 * p0.toNatClampNeg + z_4573.toNatClampNeg from by omega]; exact q)⟩⟩, hG⟩ (fun t ht hW => Bw.to hP hD hK ht hW) hS dX7_weightOf_42 hlocks
  exact key_n_4574 (((2147483647 - (0 : Int32).toInt).toNat) + 1) 0 _ _ _  ⟨(om_b1de7dbe kc_0), (om_bebe011a kc_0)⟩ (by first | (have q0 := kc_0; have q1 := kc_1; omega) | decide | assumption | exact rfl) (Nat.lt_add_one _) hG hP hD hS hl
set_option maxHeartbeats 4000000 in
set_option maxRecDepth 100000 in
theorem tX7_worthAt_x_n (l : Launch) (dC : Nat → ClassId) (dI : Nat → Nat → Nat) : ∀ (n9 : Nat) (sz : Nat) (oM : Nat) (iM_thrown : Int32) (rM_tape : Nat) (iM_taped : Int32) (iM_size : Int32) (iM_at : Int32) (iM_end : Int32) (iM_token : Int32) (iM_whole : Int32) (iM_nameSize : Int32) (iM_fault : Int32) (iM_place : Int32) (iM_trouble : Int32) (rM_letters : Nat) (iM_failed : Int32) (iM_hasCourt : Int32) (rM_r : Nat) (fM_r : Nat → Int32) (kM_r : ClassId) (rM_fresh : Nat) (rM_told : Nat) (fM_told : Nat → Int32) (kM_told : ClassId) (rM_read : Nat) (rM_st : Nat) (rM_undone : Nat) (rM_kept : Nat) (iM_undos : Int32) (iM_images : Int32) (rM_fresher : Nat) (iM_fresherSize : Int32) (iM_scale : Int32) (iM_night : Int32) (rM_heardRow : Nat) (rM_cutRow : Nat) (iM_breaths : Int32) (iM_cutMany : Int32) (iM_allBreaths : Int32) (rM_trial : Nat) (rM_words : Nat) (iM_fewestBreaths : Int32) (iM_orderMany : Int32) (iM_orderSum : Int32) (iM_leastOrder : Int32) (rM_often : Nat) (iM_setMany : Int32) (iM_someOf : Int32) (iM_allOf : Int32) (iM_allWeight : Int64) (iM_enoughWeight : Int64) (iM_worthSum : Int64) (iM_firstRest : Int32) (iM_leastDrawn : Int32) (rQ : Nat) (fQ : Nat → Int32) (kQ : ClassId) (p0 : Int32) (p1 : Int32) (b_iM_taped : 0 ≤ iM_taped.toInt ∧ iM_taped.toInt ≤ 900) (b_iM_size : 0 ≤ iM_size.toInt ∧ iM_size.toInt ≤ 900) (b_iM_end : 0 ≤ iM_end.toInt ∧ iM_end.toInt ≤ 900) (b_iM_failed : 0 ≤ iM_failed.toInt ∧ iM_failed.toInt ≤ 1) (b_iM_hasCourt : 0 ≤ iM_hasCourt.toInt ∧ iM_hasCourt.toInt ≤ 1) (b_iM_undos : 0 ≤ iM_undos.toInt ∧ iM_undos.toInt ≤ 16) (b_iM_images : 0 ≤ iM_images.toInt ∧ iM_images.toInt ≤ 3) (b_iM_scale : 1 ≤ iM_scale.toInt ∧ iM_scale.toInt ≤ 1296) (b_iM_breaths : 0 ≤ iM_breaths.toInt ∧ iM_breaths.toInt ≤ 399) (b_iM_cutMany : 0 ≤ iM_cutMany.toInt ∧ iM_cutMany.toInt ≤ 399) (r_R : ROk fM_r) (r_C : iM_hasCourt.toInt ≤ 0 ∨ (1 ≤ (fM_r 1).toInt ∧ 0 ≤ (fM_r 6).toInt ∧ (fM_r 6).toInt < (fM_r 1).toInt)) (r_told : RowOk fM_r fM_told) (r_Q : RowOk fM_r fQ) (hk0 : 0 ≤ p0.toInt ∧ p0.toInt < (fM_r 1).toInt) (hnt : iM_night.toInt = -1) (hdp : 0 ≤ p1.toInt ∧ p1.toInt + p0.toInt ≤ 100) (hn9 : p0.toInt < (n9 : Int)), Met l yX7_worthAt (Cond.code yX7_worthAt cX7_worthAt 9 (some .int) :: wG) ({ frames := 1 + n9, cells := 0, slots := 0, locals := 10 + 28 * n9 }) (va_Pc [.ref oM, .ref rQ, .int p0, .int p1] (Pw dC dI sz [(oc7 oM iM_thrown rM_tape iM_taped iM_size iM_at iM_end iM_token iM_whole iM_nameSize iM_fault iM_place iM_trouble rM_letters iM_failed iM_hasCourt rM_r rM_fresh rM_told rM_read rM_st rM_undone rM_kept iM_undos iM_images rM_fresher iM_fresherSize iM_scale iM_night rM_heardRow rM_cutRow iM_breaths iM_cutMany iM_allBreaths rM_trial rM_words iM_fewestBreaths iM_orderMany iM_orderSum iM_leastOrder rM_often iM_setMany iM_someOf iM_allOf iM_allWeight iM_enoughWeight iM_worthSum iM_firstRest iM_leastDrawn), (arI rM_r kM_r 287 fM_r), (arI rM_told kM_told 90 fM_told), (arI rQ kQ 90 fQ)] [(kM_r, .int), (kM_told, .int), (kQ, .int)])) (va_Qi (fun (r : Int32) (_ : Nat) => (True ∧ (r = rval fM_r fM_told fQ iM_scale n9 p0.toNatClampNeg)) ∧ PX7_worthAt n9 iM_night fM_r fM_told iM_scale fQ p0 p1 = r) (fun (_ : Nat) (t : State) => Bw dC dI (va_A [(oc7 oM iM_thrown rM_tape iM_taped iM_size iM_at iM_end iM_token iM_whole iM_nameSize iM_fault iM_place iM_trouble rM_letters iM_failed iM_hasCourt rM_r rM_fresh rM_told rM_read rM_st rM_undone rM_kept iM_undos iM_images rM_fresher iM_fresherSize iM_scale iM_night rM_heardRow rM_cutRow iM_breaths iM_cutMany iM_allBreaths rM_trial rM_words iM_fewestBreaths iM_orderMany iM_orderSum iM_leastOrder rM_often iM_setMany iM_someOf iM_allOf iM_allWeight iM_enoughWeight iM_worthSum iM_firstRest iM_leastDrawn), (arI rM_r kM_r 287 fM_r), (arI rM_told kM_told 90 fM_told), (arI rQ kQ 90 fQ)] sz) [(oc7 oM iM_thrown rM_tape iM_taped iM_size iM_at iM_end iM_token iM_whole iM_nameSize iM_fault iM_place iM_trouble rM_letters iM_failed iM_hasCourt rM_r rM_fresh rM_told rM_read rM_st rM_undone rM_kept iM_undos iM_images rM_fresher iM_fresherSize iM_scale iM_night rM_heardRow rM_cutRow iM_breaths iM_cutMany iM_allBreaths rM_trial rM_words iM_fewestBreaths iM_orderMany iM_orderSum iM_leastOrder rM_often iM_setMany iM_someOf iM_allOf iM_allWeight iM_enoughWeight iM_worthSum iM_firstRest iM_leastDrawn), (arI rM_r kM_r 287 fM_r), (arI rM_told kM_told 90 fM_told), (arI rQ kQ 90 fQ)] [(kM_r, .int), (kM_told, .int), (kQ, .int)] t) (va_A [(oc7 oM iM_thrown rM_tape iM_taped iM_size iM_at iM_end iM_token iM_whole iM_nameSize iM_fault iM_place iM_trouble rM_letters iM_failed iM_hasCourt rM_r rM_fresh rM_told rM_read rM_st rM_undone rM_kept iM_undos iM_images rM_fresher iM_fresherSize iM_scale iM_night rM_heardRow rM_cutRow iM_breaths iM_cutMany iM_allBreaths rM_trial rM_words iM_fewestBreaths iM_orderMany iM_orderSum iM_leastOrder rM_often iM_setMany iM_someOf iM_allOf iM_allWeight iM_enoughWeight iM_worthSum iM_firstRest iM_leastDrawn), (arI rM_r kM_r 287 fM_r), (arI rM_told kM_told 90 fM_told), (arI rQ kQ 90 fQ)] sz)) 0 0 (va_A [(oc7 oM iM_thrown rM_tape iM_taped iM_size iM_at iM_end iM_token iM_whole iM_nameSize iM_fault iM_place iM_trouble rM_letters iM_failed iM_hasCourt rM_r rM_fresh rM_told rM_read rM_st rM_undone rM_kept iM_undos iM_images rM_fresher iM_fresherSize iM_scale iM_night rM_heardRow rM_cutRow iM_breaths iM_cutMany iM_allBreaths rM_trial rM_words iM_fewestBreaths iM_orderMany iM_orderSum iM_leastOrder rM_often iM_setMany iM_someOf iM_allOf iM_allWeight iM_enoughWeight iM_worthSum iM_firstRest iM_leastDrawn), (arI rM_r kM_r 287 fM_r), (arI rM_told kM_told 90 fM_told), (arI rQ kQ 90 fQ)] sz) := by
  intro n9
  induction n9 with
  | zero => intro sz oM iM_thrown rM_tape iM_taped iM_size iM_at iM_end iM_token iM_whole iM_nameSize iM_fault iM_place iM_trouble rM_letters iM_failed iM_hasCourt rM_r fM_r kM_r rM_fresh rM_told fM_told kM_told rM_read rM_st rM_undone rM_kept iM_undos iM_images rM_fresher iM_fresherSize iM_scale iM_night rM_heardRow rM_cutRow iM_breaths iM_cutMany iM_allBreaths rM_trial rM_words iM_fewestBreaths iM_orderMany iM_orderSum iM_leastOrder rM_often iM_setMany iM_someOf iM_allOf iM_allWeight iM_enoughWeight iM_worthSum iM_firstRest iM_leastDrawn rQ fQ kQ p0 p1 b_iM_taped b_iM_size b_iM_end b_iM_failed b_iM_hasCourt b_iM_undos b_iM_images b_iM_scale b_iM_breaths b_iM_cutMany r_R r_C r_told r_Q hk0 hnt hdp hn9; exact absurd hn9 (by omega)
  | succ n9 ih9 =>
    intro sz oM iM_thrown rM_tape iM_taped iM_size iM_at iM_end iM_token iM_whole iM_nameSize iM_fault iM_place iM_trouble rM_letters iM_failed iM_hasCourt rM_r fM_r kM_r rM_fresh rM_told fM_told kM_told rM_read rM_st rM_undone rM_kept iM_undos iM_images rM_fresher iM_fresherSize iM_scale iM_night rM_heardRow rM_cutRow iM_breaths iM_cutMany iM_allBreaths rM_trial rM_words iM_fewestBreaths iM_orderMany iM_orderSum iM_leastOrder rM_often iM_setMany iM_someOf iM_allOf iM_allWeight iM_enoughWeight iM_worthSum iM_firstRest iM_leastDrawn rQ fQ kQ p0 p1 b_iM_taped b_iM_size b_iM_end b_iM_failed b_iM_hasCourt b_iM_undos b_iM_images b_iM_scale b_iM_breaths b_iM_cutMany r_R r_C r_told r_Q hk0 hnt hdp hn9
    refine Met.ofW (cc := cX7_worthAt) (maxL := 9) (ret := (some .int)) pnX7 rfl ?_
    intro p e s m args below meth c s₁ B hml hv
    obtain ⟨rfl, hsz, hP, hK, hD0, hE⟩ := hv
    have hx := B.exec
    have hb := B.bytes
    have hr := B.returns
    have hts : ∀ w ∈ wG, w.before ([.ref oM, .ref rQ, .int p0, .int p1] : List Value).toArray s = true := fun w h => atoms_spec (ws := Cond.code yX7_worthAt cX7_worthAt 9 (some .int) :: wG) B.pre w (List.mem_cons_of_mem _ h)
    have hown : s.vm.findClass RX7 = some m.cls := own_of B.named rfl
    have hlocks := B.notSynchronized
    subst hsz
    have hD := hD0.self (sz := s.heap.size)
    generalize hAe : va_A [(oc7 oM iM_thrown rM_tape iM_taped iM_size iM_at iM_end iM_token iM_whole iM_nameSize iM_fault iM_place iM_trouble rM_letters iM_failed iM_hasCourt rM_r rM_fresh rM_told rM_read rM_st rM_undone rM_kept iM_undos iM_images rM_fresher iM_fresherSize iM_scale iM_night rM_heardRow rM_cutRow iM_breaths iM_cutMany iM_allBreaths rM_trial rM_words iM_fewestBreaths iM_orderMany iM_orderSum iM_leastOrder rM_often iM_setMany iM_someOf iM_allOf iM_allWeight iM_enoughWeight iM_worthSum iM_firstRest iM_leastDrawn), (arI rM_r kM_r 287 fM_r), (arI rM_told kM_told 90 fM_told), (arI rQ kQ 90 fQ)] s.heap.size = A at hD hE ⊢
    have hA : ∀ q : Nat, s.heap.size ≤ q → A q := fun q h => by rw [← hAe]; exact Or.inr h
    have hS : va_S A s.heap s.heap [] := va_S.rf
    have hl := lv_entry ([.ref oM, .ref rQ, .int p0, .int p1]) (n := 9) (Nat.le_of_ble_eq_true rfl)
    rw [lg_entry_eq]
    generalize (lg_sl ([.ref oM, .ref rQ, .int p0, .int p1]) ++ List.replicate (9 - (lg_sl ([.ref oM, .ref rQ, .int p0, .int p1])).length) Slot.unset).toArray = ls at hl ⊢
    have hl : lv_has ls 9 [(0, .ref oM), (1, .ref rQ), (2, .int p0), (3, .int p1)] := hl
    have hG := PX7_worthAt_eq n9 iM_night fM_r fM_told iM_scale fQ p0 p1
    have s_slips := r_R.slips
    have s_nodes := r_R.nodes
    have s_uns := r_R.uns
    have q_p0 := ti_cl (x := p0) rfl hk0.1
    have mn_p0 := r_R.many (27 + p0.toNatClampNeg) (Nat.le_add_right _ _) (om_6c263690 (ti_cl (x := p0) rfl hk0.1) hk0.2 s_nodes.2)
    have kn_p0 := r_R.kind (9 + p0.toNatClampNeg) (Nat.le_add_right _ _) (om_57ce868b (ti_cl (x := p0) rfl hk0.1) hk0.2 s_nodes.2)
    have in_p0 := r_R.inner p0.toNatClampNeg (om_05d4ad0a (ti_cl (x := p0) rfl hk0.1) hk0.2)
    refine lv_aload_n hx hb dX7_worthAt_0 rfl (lv_at hl 0 rfl) ?_
    refine va_get (D := (dC, dI)) (ci := 7) (v := .ref rM_r) (C := RX7) (T := TX7) (N := 48) hx hb hts inX7 hown hK hP 0 rfl rfl 15 (by decide) (hts _ wd_155) (fun _ h9 => h9) rfl dX7_worthAt_1 ?_
    refine lv_bipush (v := 9) hx hb dX7_worthAt_4 (by decide) ?_
    refine lv_iload_n hx hb dX7_worthAt_6 rfl (lv_at hl 2 rfl) ?_
    refine lv_iadd hx hb dX7_worthAt_7 ?_
    refine lv_topi (fun x_4587 ex_4587 => ?_)
    have hG := hG.trans (lt_eq ex_4587)
    have vx_4587 : x_4587.toInt = p0.toInt + 9 := om_296ce4dd (ti_add ex_4587 kc_9 rfl (om_090bbef4 hk0.1) (om_9ecc8862 hdp.1 hdp.2))
    refine va_iald hx hb hK hP 1 0 rfl rfl (ti_in vx_4587 (om_edbe2e4c hk0.1) (om_2606a7f9 hdp.1 hdp.2)) dX7_worthAt_8 ?_
    refine lv_topi (fun x_4588 ex_4588 => ?_)
    have hG := hG.trans (lt_eq ex_4588)
    have kx_4588 : (fM_r x_4587.toNatClampNeg).toInt = x_4588.toInt := by rw [ex_4588]
    have cx_4588 : (fM_r (9 + p0.toNatClampNeg)).toInt = x_4588.toInt := by rw [show 9 + p0.toNatClampNeg = x_4587.toNatClampNeg from (om_32f1c3e7 (ti_cl (x := p0) rfl hk0.1) (ti_cl (x := x_4587) vx_4587 (om_edbe2e4c hk0.1)))]; exact kx_4588
    have sx_4588 := r_R.kind x_4587.toNatClampNeg (om_462cc4af (ti_cl (x := x_4587) vx_4587 (om_edbe2e4c hk0.1)) hk0.1) (om_7afb9f20 (ti_cl (x := x_4587) vx_4587 (om_edbe2e4c hk0.1)) hk0.2 s_nodes.2)
    refine lv_istore (lv' := [(4, .int x_4588), (0, .ref oM), (1, .ref rQ), (2, .int p0), (3, .int p1)]) hx hb dX7_worthAt_9 hl (by decide) rfl (fun ls hl => ?_)
    refine lv_iload hx hb dX7_worthAt_11 (lv_at hl 0 rfl) ?_
    refine lv_if_ne (tgt := 28) hx hb dX7_worthAt_13 (by decide) (fun c_4589 => ?_) (fun c_4589 => ?_)
    · skip
      have hG := hG.trans (if_neg c_4589)
      have gc_4589 := ti_ne c_4589 rfl kc_0
      refine lv_iload_n hx hb dX7_worthAt_28 rfl (lv_at hl 4 rfl) ?_
      refine lv_aload_n hx hb dX7_worthAt_29 rfl (lv_at hl 1 rfl) ?_
      refine va_get (D := (dC, dI)) (ci := 7) (v := .int iM_night) (C := RX7) (T := TX7) (N := 48) hx hb hts inX7 hown hK hP 0 rfl rfl 27 (by decide) (hts _ wd_164) (fun _ h9 => h9) rfl dX7_worthAt_30 ?_
      refine lv_icmp_ne (tgt := 44) hx hb dX7_worthAt_33 (by decide) (fun c_4590 => ?_) (fun c_4590 => ?_)
      · skip
        have hG := hG.trans (if_neg c_4590)
        have gc_4590 := ti_ne c_4590 rfl rfl
        refine lv_iload hx hb dX7_worthAt_44 (lv_at hl 0 rfl) ?_
        refine lv_iconst (v := 2) hx hb dX7_worthAt_46 (by decide) ?_
        refine lv_icmp_ne (tgt := 55) hx hb dX7_worthAt_47 (by decide) (fun c_4591 => ?_) (fun c_4591 => ?_)
        · skip
          have hG := hG.trans (if_neg c_4591)
          have gc_4591 := ti_ne c_4591 rfl kc_2
          refine lv_iload hx hb dX7_worthAt_55 (lv_at hl 0 rfl) ?_
          refine lv_iconst (v := 1) hx hb dX7_worthAt_57 (by decide) ?_
          refine lv_icmp_ne (tgt := 66) hx hb dX7_worthAt_58 (by decide) (fun c_4592 => ?_) (fun c_4592 => ?_)
          · skip
            have hG := hG.trans (if_neg c_4592)
            have gc_4592 := ti_ne c_4592 rfl kc_1
            refine lv_iconst (v := 0) hx hb dX7_worthAt_66 (by decide) ?_
            refine lv_istore (lv' := [(5, .int 0), (4, .int x_4588), (0, .ref oM), (1, .ref rQ), (2, .int p0), (3, .int p1)]) hx hb dX7_worthAt_67 hl (by decide) rfl (fun ls hl => ?_)
            refine lv_iconst (v := 0) hx hb dX7_worthAt_69 (by decide) ?_
            refine lv_istore (lv' := [(6, .int 0), (5, .int 0), (4, .int x_4588), (0, .ref oM), (1, .ref rQ), (2, .int p0), (3, .int p1)]) hx hb dX7_worthAt_70 hl (by decide) rfl (fun ls hl => ?_)
            have hl := lv_sub hl (l' := [(6, .int 0), (5, .int 0), (4, .int x_4588), (0, .ref oM), (1, .ref rQ), (2, .int p0), (3, .int p1)]) [0, 1, 2, 3, 4, 5, 6] rfl
            have key_n_4595 : ∀ (n_4595 : Nat) (z_4593 : Int32) (z_4594 : Int32) (H : Heap) (locs : List Loc) (ls : Array Slot), (0 ≤ z_4593.toInt ∧ z_4593.toInt ≤ (fM_r (27 + p0.toNatClampNeg)).toInt) → (z_4594 = foldV (fM_r (9 + p0.toNatClampNeg)).toInt (startV (fM_r (9 + p0.toNatClampNeg)).toInt) (VF fM_r fM_told fQ iM_scale n9 p0.toNatClampNeg) (WF fM_r fM_told fQ p0.toNatClampNeg) z_4593.toNatClampNeg) → (4 - z_4593.toInt).toNat < n_4595 → (PX7_worthAt (n9 + 1) iM_night fM_r fM_told iM_scale fQ p0 p1 = HX7_worthAt_2 (PX7_worthAt n9) fM_r fM_told iM_scale iM_night fQ p0 p1 x_4588 n_4595 z_4593 z_4594) → va_P (dC, dI) vwCl [(oc7 oM iM_thrown rM_tape iM_taped iM_size iM_at iM_end iM_token iM_whole iM_nameSize iM_fault iM_place iM_trouble rM_letters iM_failed iM_hasCourt rM_r rM_fresh rM_told rM_read rM_st rM_undone rM_kept iM_undos iM_images rM_fresher iM_fresherSize iM_scale iM_night rM_heardRow rM_cutRow iM_breaths iM_cutMany iM_allBreaths rM_trial rM_words iM_fewestBreaths iM_orderMany iM_orderSum iM_leastOrder rM_often iM_setMany iM_someOf iM_allOf iM_allWeight iM_enoughWeight iM_worthSum iM_firstRest iM_leastDrawn), (arI rM_r kM_r 287 fM_r), (arI rM_told kM_told 90 fM_told), (arI rQ kQ 90 fQ)] H → va_D A [(oc7 oM iM_thrown rM_tape iM_taped iM_size iM_at iM_end iM_token iM_whole iM_nameSize iM_fault iM_place iM_trouble rM_letters iM_failed iM_hasCourt rM_r rM_fresh rM_told rM_read rM_st rM_undone rM_kept iM_undos iM_images rM_fresher iM_fresherSize iM_scale iM_night rM_heardRow rM_cutRow iM_breaths iM_cutMany iM_allBreaths rM_trial rM_words iM_fewestBreaths iM_orderMany iM_orderSum iM_leastOrder rM_often iM_setMany iM_someOf iM_allOf iM_allWeight iM_enoughWeight iM_worthSum iM_firstRest iM_leastDrawn), (arI rM_r kM_r 287 fM_r), (arI rM_told kM_told 90 fM_told), (arI rQ kQ 90 fQ)] → va_S A s.heap H locs → lv_has ls 9 [(6, .int z_4593), (5, .int z_4594), (4, .int x_4588), (0, .ref oM), (1, .ref rQ), (2, .int p0), (3, .int p1)] → W p l e (headSpec (Cond.code yX7_worthAt cX7_worthAt 9 (some .int) :: wG) ({ frames := 1 + (n9 + 1), cells := 0, slots := 0, locals := 10 + 28 * (n9 + 1) })).room s m ([.ref oM, .ref rQ, .int p0, .int p1] : List Value).toArray below meth c H locs 0 0 (MQ below (va_Qi (fun (r : Int32) (_ : Nat) => (True ∧ (r = rval fM_r fM_told fQ iM_scale (n9 + 1) p0.toNatClampNeg)) ∧ PX7_worthAt (n9 + 1) iM_night fM_r fM_told iM_scale fQ p0 p1 = r) (fun (_ : Nat) (t : State) => Bw dC dI A [(oc7 oM iM_thrown rM_tape iM_taped iM_size iM_at iM_end iM_token iM_whole iM_nameSize iM_fault iM_place iM_trouble rM_letters iM_failed iM_hasCourt rM_r rM_fresh rM_told rM_read rM_st rM_undone rM_kept iM_undos iM_images rM_fresher iM_fresherSize iM_scale iM_night rM_heardRow rM_cutRow iM_breaths iM_cutMany iM_allBreaths rM_trial rM_words iM_fewestBreaths iM_orderMany iM_orderSum iM_leastOrder rM_often iM_setMany iM_someOf iM_allOf iM_allWeight iM_enoughWeight iM_worthSum iM_firstRest iM_leastDrawn), (arI rM_r kM_r 287 fM_r), (arI rM_told kM_told 90 fM_told), (arI rQ kQ 90 fQ)] [(kM_r, .int), (kM_told, .int), (kQ, .int)] t) A) ([.ref oM, .ref rQ, .int p0, .int p1] : List Value).toArray s 0 0 A) (F0 m 72 ls []) := by
              intro n_4595
              induction n_4595 with
              | zero => intro z_4593 z_4594 H locs ls hi0_n_4595 hi1_n_4595 hm; exact absurd hm (Nat.not_lt_zero _)
              | succ n_4595 ih_n_4595 =>
                intro z_4593 z_4594 H locs ls hi0_n_4595 hi1_n_4595 hm_n_4595 hG hP hD hS hl
                have hG := hG.trans (HX7_worthAt_2_eq _ _ _ _ _ _ _ _ _ _ _ _)
                refine lv_iload hx hb dX7_worthAt_72 (lv_at hl 0 rfl) ?_
                refine lv_aload_n hx hb dX7_worthAt_74 rfl (lv_at hl 3 rfl) ?_
                refine va_get (D := (dC, dI)) (ci := 7) (v := .ref rM_r) (C := RX7) (T := TX7) (N := 48) hx hb hts inX7 hown hK hP 0 rfl rfl 15 (by decide) (hts _ wd_155) (fun _ h9 => h9) rfl dX7_worthAt_75 ?_
                refine lv_bipush (v := 27) hx hb dX7_worthAt_78 (by decide) ?_
                refine lv_iload_n hx hb dX7_worthAt_80 rfl (lv_at hl 5 rfl) ?_
                refine lv_iadd hx hb dX7_worthAt_81 ?_
                refine lv_topi (fun x_4596 ex_4596 => ?_)
                have hG := hG.trans (lt_eq ex_4596)
                have vx_4596 : x_4596.toInt = p0.toInt + 27 := om_6c48219a (ti_add ex_4596 kc_27 rfl (om_edd3f7cf hk0.1) (om_54ed7536 hdp.1 hdp.2))
                refine va_iald hx hb hK hP 1 0 rfl rfl (ti_in vx_4596 (om_b4b48b7f hk0.1) (om_d6e519bf hdp.1 hdp.2)) dX7_worthAt_82 ?_
                refine lv_topi (fun x_4597 ex_4597 => ?_)
                have hG := hG.trans (lt_eq ex_4597)
                have kx_4597 : (fM_r x_4596.toNatClampNeg).toInt = x_4597.toInt := by rw [ex_4597]
                have cx_4597 : (fM_r (27 + p0.toNatClampNeg)).toInt = x_4597.toInt := by rw [show 27 + p0.toNatClampNeg = x_4596.toNatClampNeg from (om_779a3124 (ti_cl (x := p0) rfl hk0.1) (ti_cl (x := x_4596) vx_4596 (om_b4b48b7f hk0.1)))]; exact kx_4597
                have sx_4597 := r_R.many x_4596.toNatClampNeg (om_ab5399c3 (ti_cl (x := x_4596) vx_4596 (om_b4b48b7f hk0.1)) hk0.1) (om_3b68d876 (ti_cl (x := x_4596) vx_4596 (om_b4b48b7f hk0.1)) hk0.2 s_nodes.2)
                refine lv_icmp_ge (tgt := 179) hx hb dX7_worthAt_83 (by decide) (fun c_4598 => ?_) (fun c_4598 => ?_)
                · skip
                  have hG := hG.trans (if_pos c_4598)
                  have gc_4598 := ti_le c_4598 rfl rfl
                  refine lv_iload hx hb dX7_worthAt_179 (lv_at hl 2 rfl) ?_
                  refine lv_iconst (v := 3) hx hb dX7_worthAt_181 (by decide) ?_
                  refine lv_icmp_ne (tgt := 196) hx hb dX7_worthAt_182 (by decide) (fun c_4599 => ?_) (fun c_4599 => ?_)
                  · skip
                    have hG := hG.trans (if_neg c_4599)
                    have gc_4599 := ti_ne c_4599 rfl kc_3
                    refine lv_iload hx hb dX7_worthAt_196 (lv_at hl 1 rfl) ?_
                    exact wq_i hx hb hr 0 ⟨⟨trivial, (rval_fold (by omega) (by omega) hi1_n_4595 (by have q1 := ti_cl (x := z_4593) rfl (by omega); omega))⟩, hG⟩ (fun t ht hW => Bw.to hP hD hK ht hW) hS dX7_worthAt_198 hlocks
                  · skip
                    have hG := hG.trans (if_pos c_4599)
                    have gc_4599 := ti_eq c_4599 rfl kc_3
                    refine lv_iload hx hb dX7_worthAt_185 (lv_at hl 1 rfl) ?_
                    refine lv_aload_n hx hb dX7_worthAt_187 rfl (lv_at hl 3 rfl) ?_
                    refine lv_iload_n hx hb dX7_worthAt_188 rfl (lv_at hl 5 rfl) ?_
                    have hMs := ml_of hD [true, true, false, false] (wc := [(oc7 oM iM_thrown rM_tape iM_taped iM_size iM_at iM_end iM_token iM_whole iM_nameSize iM_fault iM_place iM_trouble rM_letters iM_failed iM_hasCourt rM_r rM_fresh rM_told rM_read rM_st rM_undone rM_kept iM_undos iM_images rM_fresher iM_fresherSize iM_scale iM_night rM_heardRow rM_cutRow iM_breaths iM_cutMany iM_allBreaths rM_trial rM_words iM_fewestBreaths iM_orderMany iM_orderSum iM_leastOrder rM_often iM_setMany iM_someOf iM_allOf iM_allWeight iM_enoughWeight iM_worthSum iM_firstRest iM_leastDrawn), (arI rM_r kM_r 287 fM_r)]) rfl
                    have hFc := va_freeM hD hS hA _ hMs
                    refine va_calli (va_runV (As := [.int p0]) (rest := [.int z_4594]) ⟨hx, hb, hml, hown, hts⟩ (tX7_weightsOf_x l dC dI _ oM iM_thrown rM_tape iM_taped iM_size iM_at iM_end iM_token iM_whole iM_nameSize iM_fault iM_place iM_trouble rM_letters iM_failed iM_hasCourt rM_r fM_r kM_r rM_fresh rM_told rM_read rM_st rM_undone rM_kept iM_undos iM_images rM_fresher iM_fresherSize iM_scale iM_night rM_heardRow rM_cutRow iM_breaths iM_cutMany iM_allBreaths rM_trial rM_words iM_fewestBreaths iM_orderMany iM_orderSum iM_leastOrder rM_often iM_setMany iM_someOf iM_allOf iM_allWeight iM_enoughWeight iM_worthSum iM_firstRest iM_leastDrawn p0 b_iM_taped b_iM_size b_iM_end b_iM_failed b_iM_hasCourt b_iM_undos b_iM_images b_iM_scale b_iM_breaths b_iM_cutMany (by assumption) (by assumption) ⟨hk0.1, hk0.2⟩ (om_9acf6818 kn_p0.2 cx_4588 gc_4599)) (cwV 1 hts (wd_V wd_506 wd_507 wd_508 wd_5 (wd_c wd_509)) rfl rfl rfl dv_yX7_weightsOf_1 ⟨(om_8728f9b4 n9), (om_b2aa452b n9)⟩) ⟨Pw.fb, recvX7 hK hP (q0 := 0) rfl, fun U hU hW => Pw.to (hP.ms _ hMs) (hD.ms _ hMs) (hK.ms [true, false, false] rfl) hE hS hFc hU hW⟩ rfl rfl hl.1 rfl (lv_room (Nat.le_of_ble_eq_true rfl)) dX7_worthAt_189 ⟨Nat.le_of_ble_eq_true rfl, Nat.le_of_ble_eq_true rfl⟩) hS (fun q _ h => hFc q h) hFc (fun r u t H locs ht hvm hw hB hz1 hk1 hS => ?_)
                    have hru9 := hw.2
                    have hw := hw.1
                    obtain ⟨hP, hD⟩ := Bw.goN (ws' := [(oc7 oM iM_thrown rM_tape iM_taped iM_size iM_at iM_end iM_token iM_whole iM_nameSize iM_fault iM_place iM_trouble rM_letters iM_failed iM_hasCourt rM_r rM_fresh rM_told rM_read rM_st rM_undone rM_kept iM_undos iM_images rM_fresher iM_fresherSize iM_scale iM_night rM_heardRow rM_cutRow iM_breaths iM_cutMany iM_allBreaths rM_trial rM_words iM_fewestBreaths iM_orderMany iM_orderSum iM_leastOrder rM_often iM_setMany iM_someOf iM_allOf iM_allWeight iM_enoughWeight iM_worthSum iM_firstRest iM_leastDrawn), (arI rM_r kM_r 287 fM_r), (arI rM_told kM_told 90 fM_told), (arI rQ kQ 90 fQ)]) hB rfl ht hP hD _ hMs hk1 hFc rfl
                    clear hz1 hk1 hvm ht hB hMs
                    obtain ⟨x_4600, rfl⟩ : ∃ z, z = r := ⟨_, rfl⟩
                    have hG := hG.trans (lt_eq hru9.symm)
                    have lx_4600 := hw.2
                    have ux_4600 := hw.2
                    refine lv_idiv hx hb dX7_worthAt_192 (ti_n0 rfl (by omega)) ?_
                    refine lv_topi (fun x_4601 ex_4601 => ?_)
                    have hG := hG.trans (lt_eq ex_4601)
                    refine lv_goto (tgt := 198) hx hb dX7_worthAt_193 (by decide) ?_
                    exact wq_i hx hb hr 0 ⟨⟨trivial, (rval_ch (by omega) hi1_n_4595 (by have q1 := ti_cl (x := z_4593) rfl (by omega); omega) lx_4600.2 ex_4601)⟩, hG⟩ (fun t ht hW => Bw.to hP hD hK ht hW) hS dX7_worthAt_198 hlocks
                · skip
                  have hG := hG.trans (if_neg c_4598)
                  have gc_4598 := ti_nle c_4598 rfl rfl
                  refine lv_aload_n hx hb dX7_worthAt_86 rfl (lv_at hl 4 rfl) ?_
                  refine lv_iconst (v := 4) hx hb dX7_worthAt_87 (by decide) ?_
                  refine lv_iload_n hx hb dX7_worthAt_88 rfl (lv_at hl 5 rfl) ?_
                  refine lv_imul hx hb dX7_worthAt_89 ?_
                  refine lv_topi (fun x_4602 ex_4602 => ?_)
                  have hG := hG.trans (lt_eq ex_4602)
                  have vx_4602 : x_4602.toInt = 4 * p0.toInt := ti_mul ex_4602 kc_4 rfl (om_56b74365 hk0.1) (om_1e4644e1 hdp.1 hdp.2)
                  refine lv_iload hx hb dX7_worthAt_90 (lv_at hl 0 rfl) ?_
                  refine lv_iadd hx hb dX7_worthAt_92 ?_
                  refine lv_topi (fun x_4603 ex_4603 => ?_)
                  have hG := hG.trans (lt_eq ex_4603)
                  have vx_4603 : x_4603.toInt = 4 * p0.toInt + z_4593.toInt := om_5d0caf0f (ti_add ex_4603 vx_4602 rfl (om_056a216f hk0.1 hi0_n_4595.1) (om_9fd6b7da hdp.1 hdp.2 mn_p0.2 hi0_n_4595.2))
                  refine va_iald hx hb hK hP 3 2 rfl rfl (ti_in vx_4603 (om_fc2812d4 hk0.1 hi0_n_4595.1) (om_01db022b hk0.2 s_nodes.2 mn_p0.2 hi0_n_4595.2)) dX7_worthAt_93 ?_
                  refine lv_topi (fun x_4604 ex_4604 => ?_)
                  have hG := hG.trans (lt_eq ex_4604)
                  have kx_4604 : (fQ x_4603.toNatClampNeg).toInt = x_4604.toInt := by rw [ex_4604]
                  have cx_4604 : (fQ (4 * p0.toNatClampNeg + z_4593.toNatClampNeg)).toInt = x_4604.toInt := by rw [show 4 * p0.toNatClampNeg + z_4593.toNatClampNeg = x_4603.toNatClampNeg from (om_4de36627 (ti_cl (x := p0) rfl hk0.1) (ti_cl (x := z_4593) rfl hi0_n_4595.1) (ti_cl (x := x_4603) vx_4603 (om_fc2812d4 hk0.1 hi0_n_4595.1)))]; exact kx_4604
                  have wx_4604 : 0 ≤ x_4604.toInt ∧ x_4604.toInt < p0.toInt := row_lt r_Q (i := z_4593.toNatClampNeg) (ti_cl (x := p0) rfl hk0.1) (ti_cl (x := z_4593) rfl hi0_n_4595.1) hk0.2 (om_644b432c cx_4597 gc_4598) (om_24300f0a (ti_cl (x := p0) rfl hk0.1) (ti_cl (x := z_4593) rfl hi0_n_4595.1)) cx_4604
                  refine lv_istore (lv' := [(7, .int x_4604), (6, .int z_4593), (5, .int z_4594), (4, .int x_4588), (0, .ref oM), (1, .ref rQ), (2, .int p0), (3, .int p1)]) hx hb dX7_worthAt_94 hl (by decide) rfl (fun ls hl => ?_)
                  refine lv_aload_n hx hb dX7_worthAt_96 rfl (lv_at hl 4 rfl) ?_
                  refine lv_aload_n hx hb dX7_worthAt_97 rfl (lv_at hl 5 rfl) ?_
                  refine lv_iload hx hb dX7_worthAt_98 (lv_at hl 0 rfl) ?_
                  refine lv_iload_n hx hb dX7_worthAt_100 rfl (lv_at hl 7 rfl) ?_
                  refine lv_iconst (v := 1) hx hb dX7_worthAt_101 (by decide) ?_
                  refine lv_iadd hx hb dX7_worthAt_102 ?_
                  refine lv_topi (fun x_4605 ex_4605 => ?_)
                  have hG := hG.trans (lt_eq ex_4605)
                  have vx_4605 : x_4605.toInt = p1.toInt + 1 := ti_add ex_4605 rfl kc_1 (om_4e4fce7e hdp.1) (om_994f3184 hk0.1 hdp.2)
                  have hFc := va_freeI hD hS hA
                  refine va_calli (va_runV (As := [.ref rQ, .int x_4604, .int x_4605]) (rest := []) ⟨hx, hb, hml, hown, hts⟩ (ih9 _ oM iM_thrown rM_tape iM_taped iM_size iM_at iM_end iM_token iM_whole iM_nameSize iM_fault iM_place iM_trouble rM_letters iM_failed iM_hasCourt rM_r fM_r kM_r rM_fresh rM_told fM_told kM_told rM_read rM_st rM_undone rM_kept iM_undos iM_images rM_fresher iM_fresherSize iM_scale iM_night rM_heardRow rM_cutRow iM_breaths iM_cutMany iM_allBreaths rM_trial rM_words iM_fewestBreaths iM_orderMany iM_orderSum iM_leastOrder rM_often iM_setMany iM_someOf iM_allOf iM_allWeight iM_enoughWeight iM_worthSum iM_firstRest iM_leastDrawn rQ fQ kQ x_4604 x_4605 b_iM_taped b_iM_size b_iM_end b_iM_failed b_iM_hasCourt b_iM_undos b_iM_images b_iM_scale b_iM_breaths b_iM_cutMany (by assumption) (by assumption) (by assumption) (by assumption) ⟨wx_4604.1, (om_90a71968 hk0.2 wx_4604.2)⟩ hnt ⟨(om_83b90de5 hdp.1 vx_4605), (om_a06ed41a hdp.2 wx_4604.2 vx_4605)⟩ (by first | assumption | (have q0 := kc_0; have q1 := kc_1; first | exact ⟨by omega, by omega⟩ | omega) | decide | (intro h; exact absurd h (by decide)))) (cwV 3 hts (wd_V wd_649 wd_650 wd_651 wd_5 (wd_c wd_652)) rfl rfl rfl (by decide +kernel) ⟨(om_70783806 n9), (om_5b028cd8 n9)⟩) ⟨Pw.fb, recvX7 hK hP (q0 := 0) rfl, fun U hU hW => Pw.to hP hD hK hE hS hFc hU hW⟩ rfl rfl hl.1 rfl (lv_room (Nat.le_of_ble_eq_true rfl)) dX7_worthAt_103 ⟨Nat.le_of_ble_eq_true rfl, Nat.le_of_ble_eq_true rfl⟩) hS (fun q _ h => hFc q h) hFc (fun r u t H locs ht hvm hw hB hz1 hk1 hS => ?_)
                  have hru9 := hw.2
                  have hw := hw.1
                  obtain ⟨hP, hD⟩ := Bw.goA (ws' := [(oc7 oM iM_thrown rM_tape iM_taped iM_size iM_at iM_end iM_token iM_whole iM_nameSize iM_fault iM_place iM_trouble rM_letters iM_failed iM_hasCourt rM_r rM_fresh rM_told rM_read rM_st rM_undone rM_kept iM_undos iM_images rM_fresher iM_fresherSize iM_scale iM_night rM_heardRow rM_cutRow iM_breaths iM_cutMany iM_allBreaths rM_trial rM_words iM_fewestBreaths iM_orderMany iM_orderSum iM_leastOrder rM_often iM_setMany iM_someOf iM_allOf iM_allWeight iM_enoughWeight iM_worthSum iM_firstRest iM_leastDrawn), (arI rM_r kM_r 287 fM_r), (arI rM_told kM_told 90 fM_told), (arI rQ kQ 90 fQ)]) hB rfl ht hFc rfl
                  clear hz1 hk1 hvm ht hB
                  obtain ⟨x_4606, rfl⟩ : ∃ z, z = r := ⟨_, rfl⟩
                  have hG := hG.trans (lt_eq hru9.symm)
                  have lx_4606 := hw.2
                  refine lv_istore (lv' := [(8, .int x_4606), (7, .int x_4604), (6, .int z_4593), (5, .int z_4594), (4, .int x_4588), (0, .ref oM), (1, .ref rQ), (2, .int p0), (3, .int p1)]) hx hb dX7_worthAt_106 hl (by decide) rfl (fun ls hl => ?_)
                  refine lv_iload hx hb dX7_worthAt_108 (lv_at hl 4 rfl) ?_
                  refine lv_iconst (v := 1) hx hb dX7_worthAt_110 (by decide) ?_
                  refine lv_icmp_ne (tgt := 133) hx hb dX7_worthAt_111 (by decide) (fun c_4607 => ?_) (fun c_4607 => ?_)
                  · skip
                    have hG := hG.trans (if_neg c_4607)
                    have gc_4607 := ti_ne c_4607 rfl kc_1
                    refine lv_iload hx hb dX7_worthAt_133 (lv_at hl 4 rfl) ?_
                    refine lv_iconst (v := 2) hx hb dX7_worthAt_135 (by decide) ?_
                    refine lv_icmp_ne (tgt := 158) hx hb dX7_worthAt_136 (by decide) (fun c_4608 => ?_) (fun c_4608 => ?_)
                    · skip
                      have hG := hG.trans (if_neg c_4608)
                      have gc_4608 := ti_ne c_4608 rfl kc_2
                      refine lv_iload hx hb dX7_worthAt_158 (lv_at hl 3 rfl) ?_
                      refine lv_iload hx hb dX7_worthAt_160 (lv_at hl 0 rfl) ?_
                      refine lv_aload_n hx hb dX7_worthAt_162 rfl (lv_at hl 5 rfl) ?_
                      refine lv_iload_n hx hb dX7_worthAt_163 rfl (lv_at hl 7 rfl) ?_
                      refine lv_iload hx hb dX7_worthAt_164 (lv_at hl 1 rfl) ?_
                      have hMs := ml_of hD [true, true, true, false] (wc := [(oc7 oM iM_thrown rM_tape iM_taped iM_size iM_at iM_end iM_token iM_whole iM_nameSize iM_fault iM_place iM_trouble rM_letters iM_failed iM_hasCourt rM_r rM_fresh rM_told rM_read rM_st rM_undone rM_kept iM_undos iM_images rM_fresher iM_fresherSize iM_scale iM_night rM_heardRow rM_cutRow iM_breaths iM_cutMany iM_allBreaths rM_trial rM_words iM_fewestBreaths iM_orderMany iM_orderSum iM_leastOrder rM_often iM_setMany iM_someOf iM_allOf iM_allWeight iM_enoughWeight iM_worthSum iM_firstRest iM_leastDrawn), (arI rM_r kM_r 287 fM_r), (arI rM_told kM_told 90 fM_told)]) rfl
                      have hFc := va_freeM hD hS hA _ hMs
                      refine va_calli (va_runV (As := [.int p0, .int x_4604]) (rest := [.int x_4606, .int z_4594]) ⟨hx, hb, hml, hown, hts⟩ (tX7_weightOf_x l dC dI _ oM iM_thrown rM_tape iM_taped iM_size iM_at iM_end iM_token iM_whole iM_nameSize iM_fault iM_place iM_trouble rM_letters iM_failed iM_hasCourt rM_r fM_r kM_r rM_fresh rM_told fM_told kM_told rM_read rM_st rM_undone rM_kept iM_undos iM_images rM_fresher iM_fresherSize iM_scale iM_night rM_heardRow rM_cutRow iM_breaths iM_cutMany iM_allBreaths rM_trial rM_words iM_fewestBreaths iM_orderMany iM_orderSum iM_leastOrder rM_often iM_setMany iM_someOf iM_allOf iM_allWeight iM_enoughWeight iM_worthSum iM_firstRest iM_leastDrawn p0 x_4604 b_iM_taped b_iM_size b_iM_end b_iM_failed b_iM_hasCourt b_iM_undos b_iM_images b_iM_scale b_iM_breaths b_iM_cutMany (by assumption) (by assumption) (by assumption) ⟨hk0.1, hk0.2⟩) (cwV 2 hts (wd_V wd_587 wd_588 wd_589 wd_5 (wd_c wd_590)) rfl rfl rfl dv_yX7_weightOf_2 ⟨(om_8728f9b4 n9), (om_b2aa452b n9)⟩) ⟨Pw.fb, recvX7 hK hP (q0 := 0) rfl, fun U hU hW => Pw.to (hP.ms _ hMs) (hD.ms _ hMs) (hK.ms [true, true, false] rfl) hE hS hFc hU hW⟩ rfl rfl hl.1 rfl (lv_room (Nat.le_of_ble_eq_true rfl)) dX7_worthAt_166 ⟨Nat.le_of_ble_eq_true rfl, Nat.le_of_ble_eq_true rfl⟩) hS (fun q _ h => hFc q h) hFc (fun r u t H locs ht hvm hw hB hz1 hk1 hS => ?_)
                      have hru9 := hw.2
                      have hw := hw.1
                      obtain ⟨hP, hD⟩ := Bw.goN (ws' := [(oc7 oM iM_thrown rM_tape iM_taped iM_size iM_at iM_end iM_token iM_whole iM_nameSize iM_fault iM_place iM_trouble rM_letters iM_failed iM_hasCourt rM_r rM_fresh rM_told rM_read rM_st rM_undone rM_kept iM_undos iM_images rM_fresher iM_fresherSize iM_scale iM_night rM_heardRow rM_cutRow iM_breaths iM_cutMany iM_allBreaths rM_trial rM_words iM_fewestBreaths iM_orderMany iM_orderSum iM_leastOrder rM_often iM_setMany iM_someOf iM_allOf iM_allWeight iM_enoughWeight iM_worthSum iM_firstRest iM_leastDrawn), (arI rM_r kM_r 287 fM_r), (arI rM_told kM_told 90 fM_told), (arI rQ kQ 90 fQ)]) hB rfl ht hP hD _ hMs hk1 hFc rfl
                      clear hz1 hk1 hvm ht hB hMs
                      obtain ⟨x_4609, rfl⟩ : ∃ z, z = r := ⟨_, rfl⟩
                      have hG := hG.trans (lt_eq hru9.symm)
                      have lx_4609 := hw.2
                      have ux_4609 := hw.2
                      refine lv_imul hx hb dX7_worthAt_169 ?_
                      refine lv_topi (fun x_4610 ex_4610 => ?_)
                      have hG := hG.trans (lt_eq ex_4610)
                      refine lv_iadd hx hb dX7_worthAt_170 ?_
                      refine lv_topi (fun x_4611 ex_4611 => ?_)
                      have hG := hG.trans (lt_eq ex_4611)
                      refine lv_istore (lv' := [(5, .int x_4611), (8, .int x_4606), (7, .int x_4604), (6, .int z_4593), (4, .int x_4588), (0, .ref oM), (1, .ref rQ), (2, .int p0), (3, .int p1)]) hx hb dX7_worthAt_171 hl (by decide) rfl (fun ls hl => ?_)
                      obtain ⟨x_4612, ex_4612⟩ : ∃ z : Int32, z = z_4593 + Int32.ofInt 1 := ⟨_, rfl⟩
                      have hG := hG.trans (lt_eq ex_4612)
                      have vx_4612 : x_4612.toInt = z_4593.toInt + 1 := ti_add (y := 1) ex_4612 rfl kc_1 (om_4e4fce7e hi0_n_4595.1) (om_d6392c09 mn_p0.2 hi0_n_4595.2)
                      refine lv_iinc (v := x_4612) (lv' := [(6, .int x_4612), (5, .int x_4611), (8, .int x_4606), (7, .int x_4604), (4, .int x_4588), (0, .ref oM), (1, .ref rQ), (2, .int p0), (3, .int p1)]) hx hb dX7_worthAt_173 hl (k := 3) rfl ex_4612.symm (by decide) rfl (fun ls hl => ?_)
                      refine lv_goto (tgt := 72) hx hb dX7_worthAt_176 (by decide) ?_
                      exact ih_n_4595 x_4612 x_4611 _ _ _  ⟨(om_83b90de5 hi0_n_4595.1 vx_4612), (om_1ad1f819 cx_4597 gc_4598 vx_4612)⟩ (fold_step (v := x_4606) (part := x_4604) hi1_n_4595 (by have q := cx_4604; rw [show 4 * p0.toNatClampNeg + z_4593.toNatClampNeg = 4 * p0.toNatClampNeg + z_4593.toNatClampNeg from by omega]; exact q) lx_4606 (step_c (by omega) (by omega) ex_4611 ex_4610 lx_4609.2) (by have q1 := ti_cl (x := x_4612) vx_4612 (om_9548a8fd hi0_n_4595.1); have q2 := ti_cl (x := z_4593) rfl hi0_n_4595.1; omega)) (ms_lt hm_n_4595 (om_ed22490e vx_4612) (om_e4be4046 mn_p0.2 cx_4597 gc_4598)) hG hP hD hS (lv_sub hl [0, 1, 4, 5, 6, 7, 8] rfl)
                    · skip
                      have hG := hG.trans (if_pos c_4608)
                      have gc_4608 := ti_eq c_4608 rfl kc_2
                      refine lv_iload hx hb dX7_worthAt_139 (lv_at hl 0 rfl) ?_
                      refine lv_iload hx hb dX7_worthAt_141 (lv_at hl 3 rfl) ?_
                      refine lv_icmp_ge (tgt := 151) hx hb dX7_worthAt_143 (by decide) (fun c_4613 => ?_) (fun c_4613 => ?_)
                      · skip
                        have hG := hG.trans (if_pos c_4613)
                        have gc_4613 := ti_le c_4613 rfl rfl
                        refine lv_iload hx hb dX7_worthAt_151 (lv_at hl 3 rfl) ?_
                        refine lv_istore (lv' := [(5, .int z_4594), (8, .int x_4606), (7, .int x_4604), (6, .int z_4593), (4, .int x_4588), (0, .ref oM), (1, .ref rQ), (2, .int p0), (3, .int p1)]) hx hb dX7_worthAt_153 hl (by decide) rfl (fun ls hl => ?_)
                        refine lv_goto (tgt := 173) hx hb dX7_worthAt_155 (by decide) ?_
                        obtain ⟨x_4614, ex_4614⟩ : ∃ z : Int32, z = z_4593 + Int32.ofInt 1 := ⟨_, rfl⟩
                        have hG := hG.trans (lt_eq ex_4614)
                        have vx_4614 : x_4614.toInt = z_4593.toInt + 1 := ti_add (y := 1) ex_4614 rfl kc_1 (om_4e4fce7e hi0_n_4595.1) (om_d6392c09 mn_p0.2 hi0_n_4595.2)
                        refine lv_iinc (v := x_4614) (lv' := [(6, .int x_4614), (5, .int z_4594), (8, .int x_4606), (7, .int x_4604), (4, .int x_4588), (0, .ref oM), (1, .ref rQ), (2, .int p0), (3, .int p1)]) hx hb dX7_worthAt_173 hl (k := 3) rfl ex_4614.symm (by decide) rfl (fun ls hl => ?_)
                        refine lv_goto (tgt := 72) hx hb dX7_worthAt_176 (by decide) ?_
                        exact ih_n_4595 x_4614 z_4594 _ _ _  ⟨(om_83b90de5 hi0_n_4595.1 vx_4614), (om_1ad1f819 cx_4597 gc_4598 vx_4614)⟩ (fold_step (v := x_4606) (part := x_4604) hi1_n_4595 (by have q := cx_4604; rw [show 4 * p0.toNatClampNeg + z_4593.toNatClampNeg = 4 * p0.toNatClampNeg + z_4593.toNatClampNeg from by omega]; exact q) lx_4606 (by first | exact step_k0 (by omega) (by omega) | exact step_q0 (by omega) (by omega)) (by have q1 := ti_cl (x := x_4614) vx_4614 (om_9548a8fd hi0_n_4595.1); have q2 := ti_cl (x := z_4593) rfl hi0_n_4595.1; omega)) (ms_lt hm_n_4595 (om_ed22490e vx_4614) (om_e4be4046 mn_p0.2 cx_4597 gc_4598)) hG hP hD hS (lv_sub hl [0, 1, 4, 5, 6, 7, 8] rfl)
                      · skip
                        have hG := hG.trans (if_neg c_4613)
                        have gc_4613 := ti_nle c_4613 rfl rfl
                        refine lv_iload hx hb dX7_worthAt_146 (lv_at hl 0 rfl) ?_
                        refine lv_goto (tgt := 153) hx hb dX7_worthAt_148 (by decide) ?_
                        refine lv_istore (lv' := [(5, .int x_4606), (8, .int x_4606), (7, .int x_4604), (6, .int z_4593), (4, .int x_4588), (0, .ref oM), (1, .ref rQ), (2, .int p0), (3, .int p1)]) hx hb dX7_worthAt_153 hl (by decide) rfl (fun ls hl => ?_)
                        refine lv_goto (tgt := 173) hx hb dX7_worthAt_155 (by decide) ?_
                        obtain ⟨x_4615, ex_4615⟩ : ∃ z : Int32, z = z_4593 + Int32.ofInt 1 := ⟨_, rfl⟩
                        have hG := hG.trans (lt_eq ex_4615)
                        have vx_4615 : x_4615.toInt = z_4593.toInt + 1 := ti_add (y := 1) ex_4615 rfl kc_1 (om_4e4fce7e hi0_n_4595.1) (om_d6392c09 mn_p0.2 hi0_n_4595.2)
                        refine lv_iinc (v := x_4615) (lv' := [(6, .int x_4615), (5, .int x_4606), (8, .int x_4606), (7, .int x_4604), (4, .int x_4588), (0, .ref oM), (1, .ref rQ), (2, .int p0), (3, .int p1)]) hx hb dX7_worthAt_173 hl (k := 3) rfl ex_4615.symm (by decide) rfl (fun ls hl => ?_)
                        refine lv_goto (tgt := 72) hx hb dX7_worthAt_176 (by decide) ?_
                        exact ih_n_4595 x_4615 x_4606 _ _ _  ⟨(om_83b90de5 hi0_n_4595.1 vx_4615), (om_1ad1f819 cx_4597 gc_4598 vx_4615)⟩ (fold_step (v := x_4606) (part := x_4604) hi1_n_4595 (by have q := cx_4604; rw [show 4 * p0.toNatClampNeg + z_4593.toNatClampNeg = 4 * p0.toNatClampNeg + z_4593.toNatClampNeg from by omega]; exact q) lx_4606 (by first | exact step_k1 (by omega) (by omega) | exact step_q1 (by omega) (by omega)) (by have q1 := ti_cl (x := x_4615) vx_4615 (om_9548a8fd hi0_n_4595.1); have q2 := ti_cl (x := z_4593) rfl hi0_n_4595.1; omega)) (ms_lt hm_n_4595 (om_ed22490e vx_4615) (om_e4be4046 mn_p0.2 cx_4597 gc_4598)) hG hP hD hS (lv_sub hl [0, 1, 4, 5, 6, 7, 8] rfl)
                  · skip
                    have hG := hG.trans (if_pos c_4607)
                    have gc_4607 := ti_eq c_4607 rfl kc_1
                    exfalso; clear hG; omega
            exact key_n_4595 (((4 - (0 : Int32).toInt).toNat) + 1) 0 0 _ _ _  ⟨(om_b1de7dbe kc_0), (om_2dfe280d mn_p0.1 kc_0)⟩ (by first | (have q0 := kc_0; have q1 := kc_1; omega) | decide | assumption | (show _ = startV _; rw [show (fM_r (9 + p0.toNatClampNeg)).toInt = 1 from by omega]; rfl) | (show _ = startV _; rw [show (fM_r (9 + p0.toNatClampNeg)).toInt = 2 from by omega]; rfl) | (show _ = startV _; rw [show (fM_r (9 + p0.toNatClampNeg)).toInt = 3 from by omega]; rfl)) (Nat.lt_add_one _) hG hP hD hS hl
          · skip
            have hG := hG.trans (if_pos c_4592)
            have gc_4592 := ti_eq c_4592 rfl kc_1
            refine lv_ldc hx hb hown (hts _ wd_654) dX7_worthAt_61 ?_
            refine lv_goto (tgt := 67) hx hb dX7_worthAt_63 (by decide) ?_
            refine lv_istore (lv' := [(5, .int (-100000000)), (4, .int x_4588), (0, .ref oM), (1, .ref rQ), (2, .int p0), (3, .int p1)]) hx hb dX7_worthAt_67 hl (by decide) rfl (fun ls hl => ?_)
            refine lv_iconst (v := 0) hx hb dX7_worthAt_69 (by decide) ?_
            refine lv_istore (lv' := [(6, .int 0), (5, .int (-100000000)), (4, .int x_4588), (0, .ref oM), (1, .ref rQ), (2, .int p0), (3, .int p1)]) hx hb dX7_worthAt_70 hl (by decide) rfl (fun ls hl => ?_)
            have hl := lv_sub hl (l' := [(6, .int 0), (5, .int (-100000000)), (4, .int x_4588), (0, .ref oM), (1, .ref rQ), (2, .int p0), (3, .int p1)]) [0, 1, 2, 3, 4, 5, 6] rfl
            have key_n_4618 : ∀ (n_4618 : Nat) (z_4616 : Int32) (z_4617 : Int32) (H : Heap) (locs : List Loc) (ls : Array Slot), (0 ≤ z_4616.toInt ∧ z_4616.toInt ≤ (fM_r (27 + p0.toNatClampNeg)).toInt) → (z_4617 = foldV (fM_r (9 + p0.toNatClampNeg)).toInt (startV (fM_r (9 + p0.toNatClampNeg)).toInt) (VF fM_r fM_told fQ iM_scale n9 p0.toNatClampNeg) (WF fM_r fM_told fQ p0.toNatClampNeg) z_4616.toNatClampNeg) → (4 - z_4616.toInt).toNat < n_4618 → (PX7_worthAt (n9 + 1) iM_night fM_r fM_told iM_scale fQ p0 p1 = HX7_worthAt_1 (PX7_worthAt n9) fM_r fM_told iM_scale iM_night fQ p0 p1 x_4588 n_4618 z_4616 z_4617) → va_P (dC, dI) vwCl [(oc7 oM iM_thrown rM_tape iM_taped iM_size iM_at iM_end iM_token iM_whole iM_nameSize iM_fault iM_place iM_trouble rM_letters iM_failed iM_hasCourt rM_r rM_fresh rM_told rM_read rM_st rM_undone rM_kept iM_undos iM_images rM_fresher iM_fresherSize iM_scale iM_night rM_heardRow rM_cutRow iM_breaths iM_cutMany iM_allBreaths rM_trial rM_words iM_fewestBreaths iM_orderMany iM_orderSum iM_leastOrder rM_often iM_setMany iM_someOf iM_allOf iM_allWeight iM_enoughWeight iM_worthSum iM_firstRest iM_leastDrawn), (arI rM_r kM_r 287 fM_r), (arI rM_told kM_told 90 fM_told), (arI rQ kQ 90 fQ)] H → va_D A [(oc7 oM iM_thrown rM_tape iM_taped iM_size iM_at iM_end iM_token iM_whole iM_nameSize iM_fault iM_place iM_trouble rM_letters iM_failed iM_hasCourt rM_r rM_fresh rM_told rM_read rM_st rM_undone rM_kept iM_undos iM_images rM_fresher iM_fresherSize iM_scale iM_night rM_heardRow rM_cutRow iM_breaths iM_cutMany iM_allBreaths rM_trial rM_words iM_fewestBreaths iM_orderMany iM_orderSum iM_leastOrder rM_often iM_setMany iM_someOf iM_allOf iM_allWeight iM_enoughWeight iM_worthSum iM_firstRest iM_leastDrawn), (arI rM_r kM_r 287 fM_r), (arI rM_told kM_told 90 fM_told), (arI rQ kQ 90 fQ)] → va_S A s.heap H locs → lv_has ls 9 [(6, .int z_4616), (5, .int z_4617), (4, .int x_4588), (0, .ref oM), (1, .ref rQ), (2, .int p0), (3, .int p1)] → W p l e (headSpec (Cond.code yX7_worthAt cX7_worthAt 9 (some .int) :: wG) ({ frames := 1 + (n9 + 1), cells := 0, slots := 0, locals := 10 + 28 * (n9 + 1) })).room s m ([.ref oM, .ref rQ, .int p0, .int p1] : List Value).toArray below meth c H locs 0 0 (MQ below (va_Qi (fun (r : Int32) (_ : Nat) => (True ∧ (r = rval fM_r fM_told fQ iM_scale (n9 + 1) p0.toNatClampNeg)) ∧ PX7_worthAt (n9 + 1) iM_night fM_r fM_told iM_scale fQ p0 p1 = r) (fun (_ : Nat) (t : State) => Bw dC dI A [(oc7 oM iM_thrown rM_tape iM_taped iM_size iM_at iM_end iM_token iM_whole iM_nameSize iM_fault iM_place iM_trouble rM_letters iM_failed iM_hasCourt rM_r rM_fresh rM_told rM_read rM_st rM_undone rM_kept iM_undos iM_images rM_fresher iM_fresherSize iM_scale iM_night rM_heardRow rM_cutRow iM_breaths iM_cutMany iM_allBreaths rM_trial rM_words iM_fewestBreaths iM_orderMany iM_orderSum iM_leastOrder rM_often iM_setMany iM_someOf iM_allOf iM_allWeight iM_enoughWeight iM_worthSum iM_firstRest iM_leastDrawn), (arI rM_r kM_r 287 fM_r), (arI rM_told kM_told 90 fM_told), (arI rQ kQ 90 fQ)] [(kM_r, .int), (kM_told, .int), (kQ, .int)] t) A) ([.ref oM, .ref rQ, .int p0, .int p1] : List Value).toArray s 0 0 A) (F0 m 72 ls []) := by
              intro n_4618
              induction n_4618 with
              | zero => intro z_4616 z_4617 H locs ls hi0_n_4618 hi1_n_4618 hm; exact absurd hm (Nat.not_lt_zero _)
              | succ n_4618 ih_n_4618 =>
                intro z_4616 z_4617 H locs ls hi0_n_4618 hi1_n_4618 hm_n_4618 hG hP hD hS hl
                have hG := hG.trans (HX7_worthAt_1_eq _ _ _ _ _ _ _ _ _ _ _ _)
                refine lv_iload hx hb dX7_worthAt_72 (lv_at hl 0 rfl) ?_
                refine lv_aload_n hx hb dX7_worthAt_74 rfl (lv_at hl 3 rfl) ?_
                refine va_get (D := (dC, dI)) (ci := 7) (v := .ref rM_r) (C := RX7) (T := TX7) (N := 48) hx hb hts inX7 hown hK hP 0 rfl rfl 15 (by decide) (hts _ wd_155) (fun _ h9 => h9) rfl dX7_worthAt_75 ?_
                refine lv_bipush (v := 27) hx hb dX7_worthAt_78 (by decide) ?_
                refine lv_iload_n hx hb dX7_worthAt_80 rfl (lv_at hl 5 rfl) ?_
                refine lv_iadd hx hb dX7_worthAt_81 ?_
                refine lv_topi (fun x_4619 ex_4619 => ?_)
                have hG := hG.trans (lt_eq ex_4619)
                have vx_4619 : x_4619.toInt = p0.toInt + 27 := om_6c48219a (ti_add ex_4619 kc_27 rfl (om_edd3f7cf hk0.1) (om_54ed7536 hdp.1 hdp.2))
                refine va_iald hx hb hK hP 1 0 rfl rfl (ti_in vx_4619 (om_b4b48b7f hk0.1) (om_d6e519bf hdp.1 hdp.2)) dX7_worthAt_82 ?_
                refine lv_topi (fun x_4620 ex_4620 => ?_)
                have hG := hG.trans (lt_eq ex_4620)
                have kx_4620 : (fM_r x_4619.toNatClampNeg).toInt = x_4620.toInt := by rw [ex_4620]
                have cx_4620 : (fM_r (27 + p0.toNatClampNeg)).toInt = x_4620.toInt := by rw [show 27 + p0.toNatClampNeg = x_4619.toNatClampNeg from (om_779a3124 (ti_cl (x := p0) rfl hk0.1) (ti_cl (x := x_4619) vx_4619 (om_b4b48b7f hk0.1)))]; exact kx_4620
                have sx_4620 := r_R.many x_4619.toNatClampNeg (om_ab5399c3 (ti_cl (x := x_4619) vx_4619 (om_b4b48b7f hk0.1)) hk0.1) (om_3b68d876 (ti_cl (x := x_4619) vx_4619 (om_b4b48b7f hk0.1)) hk0.2 s_nodes.2)
                refine lv_icmp_ge (tgt := 179) hx hb dX7_worthAt_83 (by decide) (fun c_4621 => ?_) (fun c_4621 => ?_)
                · skip
                  have hG := hG.trans (if_pos c_4621)
                  have gc_4621 := ti_le c_4621 rfl rfl
                  refine lv_iload hx hb dX7_worthAt_179 (lv_at hl 2 rfl) ?_
                  refine lv_iconst (v := 3) hx hb dX7_worthAt_181 (by decide) ?_
                  refine lv_icmp_ne (tgt := 196) hx hb dX7_worthAt_182 (by decide) (fun c_4622 => ?_) (fun c_4622 => ?_)
                  · skip
                    have hG := hG.trans (if_neg c_4622)
                    have gc_4622 := ti_ne c_4622 rfl kc_3
                    refine lv_iload hx hb dX7_worthAt_196 (lv_at hl 1 rfl) ?_
                    exact wq_i hx hb hr 0 ⟨⟨trivial, (rval_fold (by omega) (by omega) hi1_n_4618 (by have q1 := ti_cl (x := z_4616) rfl (by omega); omega))⟩, hG⟩ (fun t ht hW => Bw.to hP hD hK ht hW) hS dX7_worthAt_198 hlocks
                  · skip
                    have hG := hG.trans (if_pos c_4622)
                    have gc_4622 := ti_eq c_4622 rfl kc_3
                    exact ((om_3873ea92 gc_4592 gc_4622)).elim
                · skip
                  have hG := hG.trans (if_neg c_4621)
                  have gc_4621 := ti_nle c_4621 rfl rfl
                  refine lv_aload_n hx hb dX7_worthAt_86 rfl (lv_at hl 4 rfl) ?_
                  refine lv_iconst (v := 4) hx hb dX7_worthAt_87 (by decide) ?_
                  refine lv_iload_n hx hb dX7_worthAt_88 rfl (lv_at hl 5 rfl) ?_
                  refine lv_imul hx hb dX7_worthAt_89 ?_
                  refine lv_topi (fun x_4623 ex_4623 => ?_)
                  have hG := hG.trans (lt_eq ex_4623)
                  have vx_4623 : x_4623.toInt = 4 * p0.toInt := ti_mul ex_4623 kc_4 rfl (om_56b74365 hk0.1) (om_1e4644e1 hdp.1 hdp.2)
                  refine lv_iload hx hb dX7_worthAt_90 (lv_at hl 0 rfl) ?_
                  refine lv_iadd hx hb dX7_worthAt_92 ?_
                  refine lv_topi (fun x_4624 ex_4624 => ?_)
                  have hG := hG.trans (lt_eq ex_4624)
                  have vx_4624 : x_4624.toInt = 4 * p0.toInt + z_4616.toInt := om_5d0caf0f (ti_add ex_4624 vx_4623 rfl (om_056a216f hk0.1 hi0_n_4618.1) (om_9fd6b7da hdp.1 hdp.2 mn_p0.2 hi0_n_4618.2))
                  refine va_iald hx hb hK hP 3 2 rfl rfl (ti_in vx_4624 (om_fc2812d4 hk0.1 hi0_n_4618.1) (om_01db022b hk0.2 s_nodes.2 mn_p0.2 hi0_n_4618.2)) dX7_worthAt_93 ?_
                  refine lv_topi (fun x_4625 ex_4625 => ?_)
                  have hG := hG.trans (lt_eq ex_4625)
                  have kx_4625 : (fQ x_4624.toNatClampNeg).toInt = x_4625.toInt := by rw [ex_4625]
                  have cx_4625 : (fQ (4 * p0.toNatClampNeg + z_4616.toNatClampNeg)).toInt = x_4625.toInt := by rw [show 4 * p0.toNatClampNeg + z_4616.toNatClampNeg = x_4624.toNatClampNeg from (om_4de36627 (ti_cl (x := p0) rfl hk0.1) (ti_cl (x := z_4616) rfl hi0_n_4618.1) (ti_cl (x := x_4624) vx_4624 (om_fc2812d4 hk0.1 hi0_n_4618.1)))]; exact kx_4625
                  have wx_4625 : 0 ≤ x_4625.toInt ∧ x_4625.toInt < p0.toInt := row_lt r_Q (i := z_4616.toNatClampNeg) (ti_cl (x := p0) rfl hk0.1) (ti_cl (x := z_4616) rfl hi0_n_4618.1) hk0.2 (om_644b432c cx_4620 gc_4621) (om_24300f0a (ti_cl (x := p0) rfl hk0.1) (ti_cl (x := z_4616) rfl hi0_n_4618.1)) cx_4625
                  refine lv_istore (lv' := [(7, .int x_4625), (6, .int z_4616), (5, .int z_4617), (4, .int x_4588), (0, .ref oM), (1, .ref rQ), (2, .int p0), (3, .int p1)]) hx hb dX7_worthAt_94 hl (by decide) rfl (fun ls hl => ?_)
                  refine lv_aload_n hx hb dX7_worthAt_96 rfl (lv_at hl 4 rfl) ?_
                  refine lv_aload_n hx hb dX7_worthAt_97 rfl (lv_at hl 5 rfl) ?_
                  refine lv_iload hx hb dX7_worthAt_98 (lv_at hl 0 rfl) ?_
                  refine lv_iload_n hx hb dX7_worthAt_100 rfl (lv_at hl 7 rfl) ?_
                  refine lv_iconst (v := 1) hx hb dX7_worthAt_101 (by decide) ?_
                  refine lv_iadd hx hb dX7_worthAt_102 ?_
                  refine lv_topi (fun x_4626 ex_4626 => ?_)
                  have hG := hG.trans (lt_eq ex_4626)
                  have vx_4626 : x_4626.toInt = p1.toInt + 1 := ti_add ex_4626 rfl kc_1 (om_4e4fce7e hdp.1) (om_994f3184 hk0.1 hdp.2)
                  have hFc := va_freeI hD hS hA
                  refine va_calli (va_runV (As := [.ref rQ, .int x_4625, .int x_4626]) (rest := []) ⟨hx, hb, hml, hown, hts⟩ (ih9 _ oM iM_thrown rM_tape iM_taped iM_size iM_at iM_end iM_token iM_whole iM_nameSize iM_fault iM_place iM_trouble rM_letters iM_failed iM_hasCourt rM_r fM_r kM_r rM_fresh rM_told fM_told kM_told rM_read rM_st rM_undone rM_kept iM_undos iM_images rM_fresher iM_fresherSize iM_scale iM_night rM_heardRow rM_cutRow iM_breaths iM_cutMany iM_allBreaths rM_trial rM_words iM_fewestBreaths iM_orderMany iM_orderSum iM_leastOrder rM_often iM_setMany iM_someOf iM_allOf iM_allWeight iM_enoughWeight iM_worthSum iM_firstRest iM_leastDrawn rQ fQ kQ x_4625 x_4626 b_iM_taped b_iM_size b_iM_end b_iM_failed b_iM_hasCourt b_iM_undos b_iM_images b_iM_scale b_iM_breaths b_iM_cutMany (by assumption) (by assumption) (by assumption) (by assumption) ⟨wx_4625.1, (om_90a71968 hk0.2 wx_4625.2)⟩ hnt ⟨(om_83b90de5 hdp.1 vx_4626), (om_a06ed41a hdp.2 wx_4625.2 vx_4626)⟩ (by first | assumption | (have q0 := kc_0; have q1 := kc_1; first | exact ⟨by omega, by omega⟩ | omega) | decide | (intro h; exact absurd h (by decide)))) (cwV 3 hts (wd_V wd_649 wd_650 wd_651 wd_5 (wd_c wd_652)) rfl rfl rfl (by decide +kernel) ⟨(om_70783806 n9), (om_5b028cd8 n9)⟩) ⟨Pw.fb, recvX7 hK hP (q0 := 0) rfl, fun U hU hW => Pw.to hP hD hK hE hS hFc hU hW⟩ rfl rfl hl.1 rfl (lv_room (Nat.le_of_ble_eq_true rfl)) dX7_worthAt_103 ⟨Nat.le_of_ble_eq_true rfl, Nat.le_of_ble_eq_true rfl⟩) hS (fun q _ h => hFc q h) hFc (fun r u t H locs ht hvm hw hB hz1 hk1 hS => ?_)
                  have hru9 := hw.2
                  have hw := hw.1
                  obtain ⟨hP, hD⟩ := Bw.goA (ws' := [(oc7 oM iM_thrown rM_tape iM_taped iM_size iM_at iM_end iM_token iM_whole iM_nameSize iM_fault iM_place iM_trouble rM_letters iM_failed iM_hasCourt rM_r rM_fresh rM_told rM_read rM_st rM_undone rM_kept iM_undos iM_images rM_fresher iM_fresherSize iM_scale iM_night rM_heardRow rM_cutRow iM_breaths iM_cutMany iM_allBreaths rM_trial rM_words iM_fewestBreaths iM_orderMany iM_orderSum iM_leastOrder rM_often iM_setMany iM_someOf iM_allOf iM_allWeight iM_enoughWeight iM_worthSum iM_firstRest iM_leastDrawn), (arI rM_r kM_r 287 fM_r), (arI rM_told kM_told 90 fM_told), (arI rQ kQ 90 fQ)]) hB rfl ht hFc rfl
                  clear hz1 hk1 hvm ht hB
                  obtain ⟨x_4627, rfl⟩ : ∃ z, z = r := ⟨_, rfl⟩
                  have hG := hG.trans (lt_eq hru9.symm)
                  have lx_4627 := hw.2
                  refine lv_istore (lv' := [(8, .int x_4627), (7, .int x_4625), (6, .int z_4616), (5, .int z_4617), (4, .int x_4588), (0, .ref oM), (1, .ref rQ), (2, .int p0), (3, .int p1)]) hx hb dX7_worthAt_106 hl (by decide) rfl (fun ls hl => ?_)
                  refine lv_iload hx hb dX7_worthAt_108 (lv_at hl 4 rfl) ?_
                  refine lv_iconst (v := 1) hx hb dX7_worthAt_110 (by decide) ?_
                  refine lv_icmp_ne (tgt := 133) hx hb dX7_worthAt_111 (by decide) (fun c_4628 => ?_) (fun c_4628 => ?_)
                  · skip
                    have hG := hG.trans (if_neg c_4628)
                    have gc_4628 := ti_ne c_4628 rfl kc_1
                    exact (om_4c66930a gc_4628 gc_4592).elim
                  · skip
                    have hG := hG.trans (if_pos c_4628)
                    have gc_4628 := ti_eq c_4628 rfl kc_1
                    refine lv_iload hx hb dX7_worthAt_114 (lv_at hl 0 rfl) ?_
                    refine lv_iload hx hb dX7_worthAt_116 (lv_at hl 3 rfl) ?_
                    refine lv_icmp_le (tgt := 126) hx hb dX7_worthAt_118 (by decide) (fun c_4629 => ?_) (fun c_4629 => ?_)
                    · skip
                      have hG := hG.trans (if_pos c_4629)
                      have gc_4629 := ti_le c_4629 rfl rfl
                      refine lv_iload hx hb dX7_worthAt_126 (lv_at hl 3 rfl) ?_
                      refine lv_istore (lv' := [(5, .int z_4617), (8, .int x_4627), (7, .int x_4625), (6, .int z_4616), (4, .int x_4588), (0, .ref oM), (1, .ref rQ), (2, .int p0), (3, .int p1)]) hx hb dX7_worthAt_128 hl (by decide) rfl (fun ls hl => ?_)
                      refine lv_goto (tgt := 173) hx hb dX7_worthAt_130 (by decide) ?_
                      obtain ⟨x_4630, ex_4630⟩ : ∃ z : Int32, z = z_4616 + Int32.ofInt 1 := ⟨_, rfl⟩
                      have hG := hG.trans (lt_eq ex_4630)
                      have vx_4630 : x_4630.toInt = z_4616.toInt + 1 := ti_add (y := 1) ex_4630 rfl kc_1 (om_4e4fce7e hi0_n_4618.1) (om_d6392c09 mn_p0.2 hi0_n_4618.2)
                      refine lv_iinc (v := x_4630) (lv' := [(6, .int x_4630), (5, .int z_4617), (8, .int x_4627), (7, .int x_4625), (4, .int x_4588), (0, .ref oM), (1, .ref rQ), (2, .int p0), (3, .int p1)]) hx hb dX7_worthAt_173 hl (k := 3) rfl ex_4630.symm (by decide) rfl (fun ls hl => ?_)
                      refine lv_goto (tgt := 72) hx hb dX7_worthAt_176 (by decide) ?_
                      exact ih_n_4618 x_4630 z_4617 _ _ _  ⟨(om_83b90de5 hi0_n_4618.1 vx_4630), (om_1ad1f819 cx_4620 gc_4621 vx_4630)⟩ (fold_step (v := x_4627) (part := x_4625) hi1_n_4618 (by have q := cx_4625; rw [show 4 * p0.toNatClampNeg + z_4616.toNatClampNeg = 4 * p0.toNatClampNeg + z_4616.toNatClampNeg from by omega]; exact q) lx_4627 (by first | exact step_k0 (by omega) (by omega) | exact step_q0 (by omega) (by omega)) (by have q1 := ti_cl (x := x_4630) vx_4630 (om_9548a8fd hi0_n_4618.1); have q2 := ti_cl (x := z_4616) rfl hi0_n_4618.1; omega)) (ms_lt hm_n_4618 (om_ed22490e vx_4630) (om_e4be4046 mn_p0.2 cx_4620 gc_4621)) hG hP hD hS (lv_sub hl [0, 1, 4, 5, 6, 7, 8] rfl)
                    · skip
                      have hG := hG.trans (if_neg c_4629)
                      have gc_4629 := ti_nle c_4629 rfl rfl
                      refine lv_iload hx hb dX7_worthAt_121 (lv_at hl 0 rfl) ?_
                      refine lv_goto (tgt := 128) hx hb dX7_worthAt_123 (by decide) ?_
                      refine lv_istore (lv' := [(5, .int x_4627), (8, .int x_4627), (7, .int x_4625), (6, .int z_4616), (4, .int x_4588), (0, .ref oM), (1, .ref rQ), (2, .int p0), (3, .int p1)]) hx hb dX7_worthAt_128 hl (by decide) rfl (fun ls hl => ?_)
                      refine lv_goto (tgt := 173) hx hb dX7_worthAt_130 (by decide) ?_
                      obtain ⟨x_4631, ex_4631⟩ : ∃ z : Int32, z = z_4616 + Int32.ofInt 1 := ⟨_, rfl⟩
                      have hG := hG.trans (lt_eq ex_4631)
                      have vx_4631 : x_4631.toInt = z_4616.toInt + 1 := ti_add (y := 1) ex_4631 rfl kc_1 (om_4e4fce7e hi0_n_4618.1) (om_d6392c09 mn_p0.2 hi0_n_4618.2)
                      refine lv_iinc (v := x_4631) (lv' := [(6, .int x_4631), (5, .int x_4627), (8, .int x_4627), (7, .int x_4625), (4, .int x_4588), (0, .ref oM), (1, .ref rQ), (2, .int p0), (3, .int p1)]) hx hb dX7_worthAt_173 hl (k := 3) rfl ex_4631.symm (by decide) rfl (fun ls hl => ?_)
                      refine lv_goto (tgt := 72) hx hb dX7_worthAt_176 (by decide) ?_
                      exact ih_n_4618 x_4631 x_4627 _ _ _  ⟨(om_83b90de5 hi0_n_4618.1 vx_4631), (om_1ad1f819 cx_4620 gc_4621 vx_4631)⟩ (fold_step (v := x_4627) (part := x_4625) hi1_n_4618 (by have q := cx_4625; rw [show 4 * p0.toNatClampNeg + z_4616.toNatClampNeg = 4 * p0.toNatClampNeg + z_4616.toNatClampNeg from by omega]; exact q) lx_4627 (by first | exact step_k1 (by omega) (by omega) | exact step_q1 (by omega) (by omega)) (by have q1 := ti_cl (x := x_4631) vx_4631 (om_9548a8fd hi0_n_4618.1); have q2 := ti_cl (x := z_4616) rfl hi0_n_4618.1; omega)) (ms_lt hm_n_4618 (om_ed22490e vx_4631) (om_e4be4046 mn_p0.2 cx_4620 gc_4621)) hG hP hD hS (lv_sub hl [0, 1, 4, 5, 6, 7, 8] rfl)
            exact key_n_4618 (((4 - (0 : Int32).toInt).toNat) + 1) 0 (-100000000) _ _ _  ⟨(om_b1de7dbe kc_0), (om_2dfe280d mn_p0.1 kc_0)⟩ (by first | (have q0 := kc_m100000000; have q1 := kc_0; have q2 := kc_1; omega) | decide | assumption | (show _ = startV _; rw [show (fM_r (9 + p0.toNatClampNeg)).toInt = 1 from by omega]; rfl) | (show _ = startV _; rw [show (fM_r (9 + p0.toNatClampNeg)).toInt = 2 from by omega]; rfl) | (show _ = startV _; rw [show (fM_r (9 + p0.toNatClampNeg)).toInt = 3 from by omega]; rfl)) (Nat.lt_add_one _) hG hP hD hS hl
        · skip
          have hG := hG.trans (if_pos c_4591)
          have gc_4591 := ti_eq c_4591 rfl kc_2
          refine lv_ldc hx hb hown (hts _ wd_653) dX7_worthAt_50 ?_
          refine lv_goto (tgt := 67) hx hb dX7_worthAt_52 (by decide) ?_
          refine lv_istore (lv' := [(5, .int 100000000), (4, .int x_4588), (0, .ref oM), (1, .ref rQ), (2, .int p0), (3, .int p1)]) hx hb dX7_worthAt_67 hl (by decide) rfl (fun ls hl => ?_)
          refine lv_iconst (v := 0) hx hb dX7_worthAt_69 (by decide) ?_
          refine lv_istore (lv' := [(6, .int 0), (5, .int 100000000), (4, .int x_4588), (0, .ref oM), (1, .ref rQ), (2, .int p0), (3, .int p1)]) hx hb dX7_worthAt_70 hl (by decide) rfl (fun ls hl => ?_)
          have hl := lv_sub hl (l' := [(6, .int 0), (5, .int 100000000), (4, .int x_4588), (0, .ref oM), (1, .ref rQ), (2, .int p0), (3, .int p1)]) [0, 1, 2, 3, 4, 5, 6] rfl
          have key_n_4634 : ∀ (n_4634 : Nat) (z_4632 : Int32) (z_4633 : Int32) (H : Heap) (locs : List Loc) (ls : Array Slot), (0 ≤ z_4632.toInt ∧ z_4632.toInt ≤ (fM_r (27 + p0.toNatClampNeg)).toInt) → (z_4633 = foldV (fM_r (9 + p0.toNatClampNeg)).toInt (startV (fM_r (9 + p0.toNatClampNeg)).toInt) (VF fM_r fM_told fQ iM_scale n9 p0.toNatClampNeg) (WF fM_r fM_told fQ p0.toNatClampNeg) z_4632.toNatClampNeg) → (4 - z_4632.toInt).toNat < n_4634 → (PX7_worthAt (n9 + 1) iM_night fM_r fM_told iM_scale fQ p0 p1 = HX7_worthAt_0 (PX7_worthAt n9) fM_r fM_told iM_scale iM_night fQ p0 p1 x_4588 n_4634 z_4632 z_4633) → va_P (dC, dI) vwCl [(oc7 oM iM_thrown rM_tape iM_taped iM_size iM_at iM_end iM_token iM_whole iM_nameSize iM_fault iM_place iM_trouble rM_letters iM_failed iM_hasCourt rM_r rM_fresh rM_told rM_read rM_st rM_undone rM_kept iM_undos iM_images rM_fresher iM_fresherSize iM_scale iM_night rM_heardRow rM_cutRow iM_breaths iM_cutMany iM_allBreaths rM_trial rM_words iM_fewestBreaths iM_orderMany iM_orderSum iM_leastOrder rM_often iM_setMany iM_someOf iM_allOf iM_allWeight iM_enoughWeight iM_worthSum iM_firstRest iM_leastDrawn), (arI rM_r kM_r 287 fM_r), (arI rM_told kM_told 90 fM_told), (arI rQ kQ 90 fQ)] H → va_D A [(oc7 oM iM_thrown rM_tape iM_taped iM_size iM_at iM_end iM_token iM_whole iM_nameSize iM_fault iM_place iM_trouble rM_letters iM_failed iM_hasCourt rM_r rM_fresh rM_told rM_read rM_st rM_undone rM_kept iM_undos iM_images rM_fresher iM_fresherSize iM_scale iM_night rM_heardRow rM_cutRow iM_breaths iM_cutMany iM_allBreaths rM_trial rM_words iM_fewestBreaths iM_orderMany iM_orderSum iM_leastOrder rM_often iM_setMany iM_someOf iM_allOf iM_allWeight iM_enoughWeight iM_worthSum iM_firstRest iM_leastDrawn), (arI rM_r kM_r 287 fM_r), (arI rM_told kM_told 90 fM_told), (arI rQ kQ 90 fQ)] → va_S A s.heap H locs → lv_has ls 9 [(6, .int z_4632), (5, .int z_4633), (4, .int x_4588), (0, .ref oM), (1, .ref rQ), (2, .int p0), (3, .int p1)] → W p l e (headSpec (Cond.code yX7_worthAt cX7_worthAt 9 (some .int) :: wG) ({ frames := 1 + (n9 + 1), cells := 0, slots := 0, locals := 10 + 28 * (n9 + 1) })).room s m ([.ref oM, .ref rQ, .int p0, .int p1] : List Value).toArray below meth c H locs 0 0 (MQ below (va_Qi (fun (r : Int32) (_ : Nat) => (True ∧ (r = rval fM_r fM_told fQ iM_scale (n9 + 1) p0.toNatClampNeg)) ∧ PX7_worthAt (n9 + 1) iM_night fM_r fM_told iM_scale fQ p0 p1 = r) (fun (_ : Nat) (t : State) => Bw dC dI A [(oc7 oM iM_thrown rM_tape iM_taped iM_size iM_at iM_end iM_token iM_whole iM_nameSize iM_fault iM_place iM_trouble rM_letters iM_failed iM_hasCourt rM_r rM_fresh rM_told rM_read rM_st rM_undone rM_kept iM_undos iM_images rM_fresher iM_fresherSize iM_scale iM_night rM_heardRow rM_cutRow iM_breaths iM_cutMany iM_allBreaths rM_trial rM_words iM_fewestBreaths iM_orderMany iM_orderSum iM_leastOrder rM_often iM_setMany iM_someOf iM_allOf iM_allWeight iM_enoughWeight iM_worthSum iM_firstRest iM_leastDrawn), (arI rM_r kM_r 287 fM_r), (arI rM_told kM_told 90 fM_told), (arI rQ kQ 90 fQ)] [(kM_r, .int), (kM_told, .int), (kQ, .int)] t) A) ([.ref oM, .ref rQ, .int p0, .int p1] : List Value).toArray s 0 0 A) (F0 m 72 ls []) := by
            intro n_4634
            induction n_4634 with
            | zero => intro z_4632 z_4633 H locs ls hi0_n_4634 hi1_n_4634 hm; exact absurd hm (Nat.not_lt_zero _)
            | succ n_4634 ih_n_4634 =>
              intro z_4632 z_4633 H locs ls hi0_n_4634 hi1_n_4634 hm_n_4634 hG hP hD hS hl
              have hG := hG.trans (HX7_worthAt_0_eq _ _ _ _ _ _ _ _ _ _ _ _)
              refine lv_iload hx hb dX7_worthAt_72 (lv_at hl 0 rfl) ?_
              refine lv_aload_n hx hb dX7_worthAt_74 rfl (lv_at hl 3 rfl) ?_
              refine va_get (D := (dC, dI)) (ci := 7) (v := .ref rM_r) (C := RX7) (T := TX7) (N := 48) hx hb hts inX7 hown hK hP 0 rfl rfl 15 (by decide) (hts _ wd_155) (fun _ h9 => h9) rfl dX7_worthAt_75 ?_
              refine lv_bipush (v := 27) hx hb dX7_worthAt_78 (by decide) ?_
              refine lv_iload_n hx hb dX7_worthAt_80 rfl (lv_at hl 5 rfl) ?_
              refine lv_iadd hx hb dX7_worthAt_81 ?_
              refine lv_topi (fun x_4635 ex_4635 => ?_)
              have hG := hG.trans (lt_eq ex_4635)
              have vx_4635 : x_4635.toInt = p0.toInt + 27 := om_6c48219a (ti_add ex_4635 kc_27 rfl (om_edd3f7cf hk0.1) (om_54ed7536 hdp.1 hdp.2))
              refine va_iald hx hb hK hP 1 0 rfl rfl (ti_in vx_4635 (om_b4b48b7f hk0.1) (om_d6e519bf hdp.1 hdp.2)) dX7_worthAt_82 ?_
              refine lv_topi (fun x_4636 ex_4636 => ?_)
              have hG := hG.trans (lt_eq ex_4636)
              have kx_4636 : (fM_r x_4635.toNatClampNeg).toInt = x_4636.toInt := by rw [ex_4636]
              have cx_4636 : (fM_r (27 + p0.toNatClampNeg)).toInt = x_4636.toInt := by rw [show 27 + p0.toNatClampNeg = x_4635.toNatClampNeg from (om_779a3124 (ti_cl (x := p0) rfl hk0.1) (ti_cl (x := x_4635) vx_4635 (om_b4b48b7f hk0.1)))]; exact kx_4636
              have sx_4636 := r_R.many x_4635.toNatClampNeg (om_ab5399c3 (ti_cl (x := x_4635) vx_4635 (om_b4b48b7f hk0.1)) hk0.1) (om_3b68d876 (ti_cl (x := x_4635) vx_4635 (om_b4b48b7f hk0.1)) hk0.2 s_nodes.2)
              refine lv_icmp_ge (tgt := 179) hx hb dX7_worthAt_83 (by decide) (fun c_4637 => ?_) (fun c_4637 => ?_)
              · skip
                have hG := hG.trans (if_pos c_4637)
                have gc_4637 := ti_le c_4637 rfl rfl
                refine lv_iload hx hb dX7_worthAt_179 (lv_at hl 2 rfl) ?_
                refine lv_iconst (v := 3) hx hb dX7_worthAt_181 (by decide) ?_
                refine lv_icmp_ne (tgt := 196) hx hb dX7_worthAt_182 (by decide) (fun c_4638 => ?_) (fun c_4638 => ?_)
                · skip
                  have hG := hG.trans (if_neg c_4638)
                  have gc_4638 := ti_ne c_4638 rfl kc_3
                  refine lv_iload hx hb dX7_worthAt_196 (lv_at hl 1 rfl) ?_
                  exact wq_i hx hb hr 0 ⟨⟨trivial, (rval_fold (by omega) (by omega) hi1_n_4634 (by have q1 := ti_cl (x := z_4632) rfl (by omega); omega))⟩, hG⟩ (fun t ht hW => Bw.to hP hD hK ht hW) hS dX7_worthAt_198 hlocks
                · skip
                  have hG := hG.trans (if_pos c_4638)
                  have gc_4638 := ti_eq c_4638 rfl kc_3
                  exact ((om_51643139 gc_4591 gc_4638)).elim
              · skip
                have hG := hG.trans (if_neg c_4637)
                have gc_4637 := ti_nle c_4637 rfl rfl
                refine lv_aload_n hx hb dX7_worthAt_86 rfl (lv_at hl 4 rfl) ?_
                refine lv_iconst (v := 4) hx hb dX7_worthAt_87 (by decide) ?_
                refine lv_iload_n hx hb dX7_worthAt_88 rfl (lv_at hl 5 rfl) ?_
                refine lv_imul hx hb dX7_worthAt_89 ?_
                refine lv_topi (fun x_4639 ex_4639 => ?_)
                have hG := hG.trans (lt_eq ex_4639)
                have vx_4639 : x_4639.toInt = 4 * p0.toInt := ti_mul ex_4639 kc_4 rfl (om_56b74365 hk0.1) (om_1e4644e1 hdp.1 hdp.2)
                refine lv_iload hx hb dX7_worthAt_90 (lv_at hl 0 rfl) ?_
                refine lv_iadd hx hb dX7_worthAt_92 ?_
                refine lv_topi (fun x_4640 ex_4640 => ?_)
                have hG := hG.trans (lt_eq ex_4640)
                have vx_4640 : x_4640.toInt = 4 * p0.toInt + z_4632.toInt := om_5d0caf0f (ti_add ex_4640 vx_4639 rfl (om_056a216f hk0.1 hi0_n_4634.1) (om_9fd6b7da hdp.1 hdp.2 mn_p0.2 hi0_n_4634.2))
                refine va_iald hx hb hK hP 3 2 rfl rfl (ti_in vx_4640 (om_fc2812d4 hk0.1 hi0_n_4634.1) (om_01db022b hk0.2 s_nodes.2 mn_p0.2 hi0_n_4634.2)) dX7_worthAt_93 ?_
                refine lv_topi (fun x_4641 ex_4641 => ?_)
                have hG := hG.trans (lt_eq ex_4641)
                have kx_4641 : (fQ x_4640.toNatClampNeg).toInt = x_4641.toInt := by rw [ex_4641]
                have cx_4641 : (fQ (4 * p0.toNatClampNeg + z_4632.toNatClampNeg)).toInt = x_4641.toInt := by rw [show 4 * p0.toNatClampNeg + z_4632.toNatClampNeg = x_4640.toNatClampNeg from (om_4de36627 (ti_cl (x := p0) rfl hk0.1) (ti_cl (x := z_4632) rfl hi0_n_4634.1) (ti_cl (x := x_4640) vx_4640 (om_fc2812d4 hk0.1 hi0_n_4634.1)))]; exact kx_4641
                have wx_4641 : 0 ≤ x_4641.toInt ∧ x_4641.toInt < p0.toInt := row_lt r_Q (i := z_4632.toNatClampNeg) (ti_cl (x := p0) rfl hk0.1) (ti_cl (x := z_4632) rfl hi0_n_4634.1) hk0.2 (om_644b432c cx_4636 gc_4637) (om_24300f0a (ti_cl (x := p0) rfl hk0.1) (ti_cl (x := z_4632) rfl hi0_n_4634.1)) cx_4641
                refine lv_istore (lv' := [(7, .int x_4641), (6, .int z_4632), (5, .int z_4633), (4, .int x_4588), (0, .ref oM), (1, .ref rQ), (2, .int p0), (3, .int p1)]) hx hb dX7_worthAt_94 hl (by decide) rfl (fun ls hl => ?_)
                refine lv_aload_n hx hb dX7_worthAt_96 rfl (lv_at hl 4 rfl) ?_
                refine lv_aload_n hx hb dX7_worthAt_97 rfl (lv_at hl 5 rfl) ?_
                refine lv_iload hx hb dX7_worthAt_98 (lv_at hl 0 rfl) ?_
                refine lv_iload_n hx hb dX7_worthAt_100 rfl (lv_at hl 7 rfl) ?_
                refine lv_iconst (v := 1) hx hb dX7_worthAt_101 (by decide) ?_
                refine lv_iadd hx hb dX7_worthAt_102 ?_
                refine lv_topi (fun x_4642 ex_4642 => ?_)
                have hG := hG.trans (lt_eq ex_4642)
                have vx_4642 : x_4642.toInt = p1.toInt + 1 := ti_add ex_4642 rfl kc_1 (om_4e4fce7e hdp.1) (om_994f3184 hk0.1 hdp.2)
                have hFc := va_freeI hD hS hA
                refine va_calli (va_runV (As := [.ref rQ, .int x_4641, .int x_4642]) (rest := []) ⟨hx, hb, hml, hown, hts⟩ (ih9 _ oM iM_thrown rM_tape iM_taped iM_size iM_at iM_end iM_token iM_whole iM_nameSize iM_fault iM_place iM_trouble rM_letters iM_failed iM_hasCourt rM_r fM_r kM_r rM_fresh rM_told fM_told kM_told rM_read rM_st rM_undone rM_kept iM_undos iM_images rM_fresher iM_fresherSize iM_scale iM_night rM_heardRow rM_cutRow iM_breaths iM_cutMany iM_allBreaths rM_trial rM_words iM_fewestBreaths iM_orderMany iM_orderSum iM_leastOrder rM_often iM_setMany iM_someOf iM_allOf iM_allWeight iM_enoughWeight iM_worthSum iM_firstRest iM_leastDrawn rQ fQ kQ x_4641 x_4642 b_iM_taped b_iM_size b_iM_end b_iM_failed b_iM_hasCourt b_iM_undos b_iM_images b_iM_scale b_iM_breaths b_iM_cutMany (by assumption) (by assumption) (by assumption) (by assumption) ⟨wx_4641.1, (om_90a71968 hk0.2 wx_4641.2)⟩ hnt ⟨(om_83b90de5 hdp.1 vx_4642), (om_a06ed41a hdp.2 wx_4641.2 vx_4642)⟩ (by first | assumption | (have q0 := kc_0; have q1 := kc_1; first | exact ⟨by omega, by omega⟩ | omega) | decide | (intro h; exact absurd h (by decide)))) (cwV 3 hts (wd_V wd_649 wd_650 wd_651 wd_5 (wd_c wd_652)) rfl rfl rfl (by decide +kernel) ⟨(om_70783806 n9), (om_5b028cd8 n9)⟩) ⟨Pw.fb, recvX7 hK hP (q0 := 0) rfl, fun U hU hW => Pw.to hP hD hK hE hS hFc hU hW⟩ rfl rfl hl.1 rfl (lv_room (Nat.le_of_ble_eq_true rfl)) dX7_worthAt_103 ⟨Nat.le_of_ble_eq_true rfl, Nat.le_of_ble_eq_true rfl⟩) hS (fun q _ h => hFc q h) hFc (fun r u t H locs ht hvm hw hB hz1 hk1 hS => ?_)
                have hru9 := hw.2
                have hw := hw.1
                obtain ⟨hP, hD⟩ := Bw.goA (ws' := [(oc7 oM iM_thrown rM_tape iM_taped iM_size iM_at iM_end iM_token iM_whole iM_nameSize iM_fault iM_place iM_trouble rM_letters iM_failed iM_hasCourt rM_r rM_fresh rM_told rM_read rM_st rM_undone rM_kept iM_undos iM_images rM_fresher iM_fresherSize iM_scale iM_night rM_heardRow rM_cutRow iM_breaths iM_cutMany iM_allBreaths rM_trial rM_words iM_fewestBreaths iM_orderMany iM_orderSum iM_leastOrder rM_often iM_setMany iM_someOf iM_allOf iM_allWeight iM_enoughWeight iM_worthSum iM_firstRest iM_leastDrawn), (arI rM_r kM_r 287 fM_r), (arI rM_told kM_told 90 fM_told), (arI rQ kQ 90 fQ)]) hB rfl ht hFc rfl
                clear hz1 hk1 hvm ht hB
                obtain ⟨x_4643, rfl⟩ : ∃ z, z = r := ⟨_, rfl⟩
                have hG := hG.trans (lt_eq hru9.symm)
                have lx_4643 := hw.2
                refine lv_istore (lv' := [(8, .int x_4643), (7, .int x_4641), (6, .int z_4632), (5, .int z_4633), (4, .int x_4588), (0, .ref oM), (1, .ref rQ), (2, .int p0), (3, .int p1)]) hx hb dX7_worthAt_106 hl (by decide) rfl (fun ls hl => ?_)
                refine lv_iload hx hb dX7_worthAt_108 (lv_at hl 4 rfl) ?_
                refine lv_iconst (v := 1) hx hb dX7_worthAt_110 (by decide) ?_
                refine lv_icmp_ne (tgt := 133) hx hb dX7_worthAt_111 (by decide) (fun c_4644 => ?_) (fun c_4644 => ?_)
                · skip
                  have hG := hG.trans (if_neg c_4644)
                  have gc_4644 := ti_ne c_4644 rfl kc_1
                  refine lv_iload hx hb dX7_worthAt_133 (lv_at hl 4 rfl) ?_
                  refine lv_iconst (v := 2) hx hb dX7_worthAt_135 (by decide) ?_
                  refine lv_icmp_ne (tgt := 158) hx hb dX7_worthAt_136 (by decide) (fun c_4645 => ?_) (fun c_4645 => ?_)
                  · skip
                    have hG := hG.trans (if_neg c_4645)
                    have gc_4645 := ti_ne c_4645 rfl kc_2
                    exact (om_d91d710b gc_4645 gc_4591).elim
                  · skip
                    have hG := hG.trans (if_pos c_4645)
                    have gc_4645 := ti_eq c_4645 rfl kc_2
                    refine lv_iload hx hb dX7_worthAt_139 (lv_at hl 0 rfl) ?_
                    refine lv_iload hx hb dX7_worthAt_141 (lv_at hl 3 rfl) ?_
                    refine lv_icmp_ge (tgt := 151) hx hb dX7_worthAt_143 (by decide) (fun c_4646 => ?_) (fun c_4646 => ?_)
                    · skip
                      have hG := hG.trans (if_pos c_4646)
                      have gc_4646 := ti_le c_4646 rfl rfl
                      refine lv_iload hx hb dX7_worthAt_151 (lv_at hl 3 rfl) ?_
                      refine lv_istore (lv' := [(5, .int z_4633), (8, .int x_4643), (7, .int x_4641), (6, .int z_4632), (4, .int x_4588), (0, .ref oM), (1, .ref rQ), (2, .int p0), (3, .int p1)]) hx hb dX7_worthAt_153 hl (by decide) rfl (fun ls hl => ?_)
                      refine lv_goto (tgt := 173) hx hb dX7_worthAt_155 (by decide) ?_
                      obtain ⟨x_4647, ex_4647⟩ : ∃ z : Int32, z = z_4632 + Int32.ofInt 1 := ⟨_, rfl⟩
                      have hG := hG.trans (lt_eq ex_4647)
                      have vx_4647 : x_4647.toInt = z_4632.toInt + 1 := ti_add (y := 1) ex_4647 rfl kc_1 (om_4e4fce7e hi0_n_4634.1) (om_d6392c09 mn_p0.2 hi0_n_4634.2)
                      refine lv_iinc (v := x_4647) (lv' := [(6, .int x_4647), (5, .int z_4633), (8, .int x_4643), (7, .int x_4641), (4, .int x_4588), (0, .ref oM), (1, .ref rQ), (2, .int p0), (3, .int p1)]) hx hb dX7_worthAt_173 hl (k := 3) rfl ex_4647.symm (by decide) rfl (fun ls hl => ?_)
                      refine lv_goto (tgt := 72) hx hb dX7_worthAt_176 (by decide) ?_
                      exact ih_n_4634 x_4647 z_4633 _ _ _  ⟨(om_83b90de5 hi0_n_4634.1 vx_4647), (om_1ad1f819 cx_4636 gc_4637 vx_4647)⟩ (fold_step (v := x_4643) (part := x_4641) hi1_n_4634 (by have q := cx_4641; rw [show 4 * p0.toNatClampNeg + z_4632.toNatClampNeg = 4 * p0.toNatClampNeg + z_4632.toNatClampNeg from by omega]; exact q) lx_4643 (by first | exact step_k0 (by omega) (by omega) | exact step_q0 (by omega) (by omega)) (by have q1 := ti_cl (x := x_4647) vx_4647 (om_9548a8fd hi0_n_4634.1); have q2 := ti_cl (x := z_4632) rfl hi0_n_4634.1; omega)) (ms_lt hm_n_4634 (om_ed22490e vx_4647) (om_e4be4046 mn_p0.2 cx_4636 gc_4637)) hG hP hD hS (lv_sub hl [0, 1, 4, 5, 6, 7, 8] rfl)
                    · skip
                      have hG := hG.trans (if_neg c_4646)
                      have gc_4646 := ti_nle c_4646 rfl rfl
                      refine lv_iload hx hb dX7_worthAt_146 (lv_at hl 0 rfl) ?_
                      refine lv_goto (tgt := 153) hx hb dX7_worthAt_148 (by decide) ?_
                      refine lv_istore (lv' := [(5, .int x_4643), (8, .int x_4643), (7, .int x_4641), (6, .int z_4632), (4, .int x_4588), (0, .ref oM), (1, .ref rQ), (2, .int p0), (3, .int p1)]) hx hb dX7_worthAt_153 hl (by decide) rfl (fun ls hl => ?_)
                      refine lv_goto (tgt := 173) hx hb dX7_worthAt_155 (by decide) ?_
                      obtain ⟨x_4648, ex_4648⟩ : ∃ z : Int32, z = z_4632 + Int32.ofInt 1 := ⟨_, rfl⟩
                      have hG := hG.trans (lt_eq ex_4648)
                      have vx_4648 : x_4648.toInt = z_4632.toInt + 1 := ti_add (y := 1) ex_4648 rfl kc_1 (om_4e4fce7e hi0_n_4634.1) (om_d6392c09 mn_p0.2 hi0_n_4634.2)
                      refine lv_iinc (v := x_4648) (lv' := [(6, .int x_4648), (5, .int x_4643), (8, .int x_4643), (7, .int x_4641), (4, .int x_4588), (0, .ref oM), (1, .ref rQ), (2, .int p0), (3, .int p1)]) hx hb dX7_worthAt_173 hl (k := 3) rfl ex_4648.symm (by decide) rfl (fun ls hl => ?_)
                      refine lv_goto (tgt := 72) hx hb dX7_worthAt_176 (by decide) ?_
                      exact ih_n_4634 x_4648 x_4643 _ _ _  ⟨(om_83b90de5 hi0_n_4634.1 vx_4648), (om_1ad1f819 cx_4636 gc_4637 vx_4648)⟩ (fold_step (v := x_4643) (part := x_4641) hi1_n_4634 (by have q := cx_4641; rw [show 4 * p0.toNatClampNeg + z_4632.toNatClampNeg = 4 * p0.toNatClampNeg + z_4632.toNatClampNeg from by omega]; exact q) lx_4643 (by first | exact step_k1 (by omega) (by omega) | exact step_q1 (by omega) (by omega)) (by have q1 := ti_cl (x := x_4648) vx_4648 (om_9548a8fd hi0_n_4634.1); have q2 := ti_cl (x := z_4632) rfl hi0_n_4634.1; omega)) (ms_lt hm_n_4634 (om_ed22490e vx_4648) (om_e4be4046 mn_p0.2 cx_4636 gc_4637)) hG hP hD hS (lv_sub hl [0, 1, 4, 5, 6, 7, 8] rfl)
                · skip
                  have hG := hG.trans (if_pos c_4644)
                  have gc_4644 := ti_eq c_4644 rfl kc_1
                  exact ((om_e3b39179 gc_4591 gc_4644)).elim
          exact key_n_4634 (((4 - (0 : Int32).toInt).toNat) + 1) 0 100000000 _ _ _  ⟨(om_b1de7dbe kc_0), (om_2dfe280d mn_p0.1 kc_0)⟩ (by first | (have q0 := kc_0; have q1 := kc_1; have q2 := kc_100000000; omega) | decide | assumption | (show _ = startV _; rw [show (fM_r (9 + p0.toNatClampNeg)).toInt = 1 from by omega]; rfl) | (show _ = startV _; rw [show (fM_r (9 + p0.toNatClampNeg)).toInt = 2 from by omega]; rfl) | (show _ = startV _; rw [show (fM_r (9 + p0.toNatClampNeg)).toInt = 3 from by omega]; rfl)) (Nat.lt_add_one _) hG hP hD hS hl
      · skip
        have hG := hG.trans (if_pos c_4590)
        have gc_4590 := ti_eq c_4590 rfl rfl
        exact ((om_756d8502 hnt hdp.1 gc_4590)).elim
    · skip
      have hG := hG.trans (if_pos c_4589)
      have gc_4589 := ti_eq c_4589 rfl kc_0
      refine lv_aload_n hx hb dX7_worthAt_16 rfl (lv_at hl 2 rfl) ?_
      refine lv_bipush (v := 72) hx hb dX7_worthAt_17 (by decide) ?_
      refine lv_iload_n hx hb dX7_worthAt_19 rfl (lv_at hl 3 rfl) ?_
      refine lv_iadd hx hb dX7_worthAt_20 ?_
      refine lv_topi (fun x_4649 ex_4649 => ?_)
      have hG := hG.trans (lt_eq ex_4649)
      have vx_4649 : x_4649.toInt = p0.toInt + 72 := om_2d0716db (ti_add ex_4649 kc_72 rfl (om_7e97233d hk0.1) (om_a905bcc5 hdp.1 hdp.2))
      refine va_iald hx hb hK hP 3 2 rfl rfl (ti_in vx_4649 (om_2ad8b1ab hk0.1) (om_311d1202 hk0.2 s_nodes.2)) dX7_worthAt_21 ?_
      refine lv_topi (fun x_4650 ex_4650 => ?_)
      have hG := hG.trans (lt_eq ex_4650)
      have kx_4650 : (fQ x_4649.toNatClampNeg).toInt = x_4650.toInt := by rw [ex_4650]
      have cx_4650 : (fQ (72 + p0.toNatClampNeg)).toInt = x_4650.toInt := by rw [show 72 + p0.toNatClampNeg = x_4649.toNatClampNeg from (om_cbf191f8 (ti_cl (x := p0) rfl hk0.1) (ti_cl (x := x_4649) vx_4649 (om_2ad8b1ab hk0.1)))]; exact kx_4650
      refine lv_aload_n hx hb dX7_worthAt_22 rfl (lv_at hl 1 rfl) ?_
      refine va_get (D := (dC, dI)) (ci := 7) (v := .int iM_scale) (C := RX7) (T := TX7) (N := 48) hx hb hts inX7 hown hK hP 0 rfl rfl 26 (by decide) (hts _ wd_163) (fun _ h9 => h9) rfl dX7_worthAt_23 ?_
      refine lv_imul hx hb dX7_worthAt_26 ?_
      refine lv_topi (fun x_4651 ex_4651 => ?_)
      have hG := hG.trans (lt_eq ex_4651)
      exact wq_i hx hb hr 0 ⟨⟨trivial, (rval_word (z := x_4650) (by omega) (by have q := cx_4650; rw [show 72 + p0.toNatClampNeg = 72 + p0.toNatClampNeg from by omega]; exact q) ex_4651)⟩, hG⟩ (fun t ht hW => Bw.to hP hD hK ht hW) hS dX7_worthAt_27 hlocks
theorem tX7_worthAt_x (l : Launch) (dC : Nat → ClassId) (dI : Nat → Nat → Nat) (sz : Nat) (oM : Nat) (iM_thrown : Int32) (rM_tape : Nat) (iM_taped : Int32) (iM_size : Int32) (iM_at : Int32) (iM_end : Int32) (iM_token : Int32) (iM_whole : Int32) (iM_nameSize : Int32) (iM_fault : Int32) (iM_place : Int32) (iM_trouble : Int32) (rM_letters : Nat) (iM_failed : Int32) (iM_hasCourt : Int32) (rM_r : Nat) (fM_r : Nat → Int32) (kM_r : ClassId) (rM_fresh : Nat) (rM_told : Nat) (fM_told : Nat → Int32) (kM_told : ClassId) (rM_read : Nat) (rM_st : Nat) (rM_undone : Nat) (rM_kept : Nat) (iM_undos : Int32) (iM_images : Int32) (rM_fresher : Nat) (iM_fresherSize : Int32) (iM_scale : Int32) (iM_night : Int32) (rM_heardRow : Nat) (rM_cutRow : Nat) (iM_breaths : Int32) (iM_cutMany : Int32) (iM_allBreaths : Int32) (rM_trial : Nat) (rM_words : Nat) (iM_fewestBreaths : Int32) (iM_orderMany : Int32) (iM_orderSum : Int32) (iM_leastOrder : Int32) (rM_often : Nat) (iM_setMany : Int32) (iM_someOf : Int32) (iM_allOf : Int32) (iM_allWeight : Int64) (iM_enoughWeight : Int64) (iM_worthSum : Int64) (iM_firstRest : Int32) (iM_leastDrawn : Int32) (rQ : Nat) (fQ : Nat → Int32) (kQ : ClassId) (p0 : Int32) (p1 : Int32) (b_iM_taped : 0 ≤ iM_taped.toInt ∧ iM_taped.toInt ≤ 900) (b_iM_size : 0 ≤ iM_size.toInt ∧ iM_size.toInt ≤ 900) (b_iM_end : 0 ≤ iM_end.toInt ∧ iM_end.toInt ≤ 900) (b_iM_failed : 0 ≤ iM_failed.toInt ∧ iM_failed.toInt ≤ 1) (b_iM_hasCourt : 0 ≤ iM_hasCourt.toInt ∧ iM_hasCourt.toInt ≤ 1) (b_iM_undos : 0 ≤ iM_undos.toInt ∧ iM_undos.toInt ≤ 16) (b_iM_images : 0 ≤ iM_images.toInt ∧ iM_images.toInt ≤ 3) (b_iM_scale : 1 ≤ iM_scale.toInt ∧ iM_scale.toInt ≤ 1296) (b_iM_breaths : 0 ≤ iM_breaths.toInt ∧ iM_breaths.toInt ≤ 399) (b_iM_cutMany : 0 ≤ iM_cutMany.toInt ∧ iM_cutMany.toInt ≤ 399) (r_R : ROk fM_r) (r_C : iM_hasCourt.toInt ≤ 0 ∨ (1 ≤ (fM_r 1).toInt ∧ 0 ≤ (fM_r 6).toInt ∧ (fM_r 6).toInt < (fM_r 1).toInt)) (r_told : RowOk fM_r fM_told) (r_Q : RowOk fM_r fQ) (hk0 : 0 ≤ p0.toInt ∧ p0.toInt < (fM_r 1).toInt) (hnt : iM_night.toInt = -1) (hdp : 0 ≤ p1.toInt ∧ p1.toInt + p0.toInt ≤ 100) : Met l yX7_worthAt (Cond.code yX7_worthAt cX7_worthAt 9 (some .int) :: wG) ({ frames := 19, cells := 0, slots := 0, locals := 514 }) (va_Pc [.ref oM, .ref rQ, .int p0, .int p1] (Pw dC dI sz [(oc7 oM iM_thrown rM_tape iM_taped iM_size iM_at iM_end iM_token iM_whole iM_nameSize iM_fault iM_place iM_trouble rM_letters iM_failed iM_hasCourt rM_r rM_fresh rM_told rM_read rM_st rM_undone rM_kept iM_undos iM_images rM_fresher iM_fresherSize iM_scale iM_night rM_heardRow rM_cutRow iM_breaths iM_cutMany iM_allBreaths rM_trial rM_words iM_fewestBreaths iM_orderMany iM_orderSum iM_leastOrder rM_often iM_setMany iM_someOf iM_allOf iM_allWeight iM_enoughWeight iM_worthSum iM_firstRest iM_leastDrawn), (arI rM_r kM_r 287 fM_r), (arI rM_told kM_told 90 fM_told), (arI rQ kQ 90 fQ)] [(kM_r, .int), (kM_told, .int), (kQ, .int)])) (va_Qi (fun (r : Int32) (_ : Nat) => (True ∧ (r = rval fM_r fM_told fQ iM_scale 18 p0.toNatClampNeg)) ∧ PX7_worthAt 18 iM_night fM_r fM_told iM_scale fQ p0 p1 = r) (fun (_ : Nat) (t : State) => Bw dC dI (va_A [(oc7 oM iM_thrown rM_tape iM_taped iM_size iM_at iM_end iM_token iM_whole iM_nameSize iM_fault iM_place iM_trouble rM_letters iM_failed iM_hasCourt rM_r rM_fresh rM_told rM_read rM_st rM_undone rM_kept iM_undos iM_images rM_fresher iM_fresherSize iM_scale iM_night rM_heardRow rM_cutRow iM_breaths iM_cutMany iM_allBreaths rM_trial rM_words iM_fewestBreaths iM_orderMany iM_orderSum iM_leastOrder rM_often iM_setMany iM_someOf iM_allOf iM_allWeight iM_enoughWeight iM_worthSum iM_firstRest iM_leastDrawn), (arI rM_r kM_r 287 fM_r), (arI rM_told kM_told 90 fM_told), (arI rQ kQ 90 fQ)] sz) [(oc7 oM iM_thrown rM_tape iM_taped iM_size iM_at iM_end iM_token iM_whole iM_nameSize iM_fault iM_place iM_trouble rM_letters iM_failed iM_hasCourt rM_r rM_fresh rM_told rM_read rM_st rM_undone rM_kept iM_undos iM_images rM_fresher iM_fresherSize iM_scale iM_night rM_heardRow rM_cutRow iM_breaths iM_cutMany iM_allBreaths rM_trial rM_words iM_fewestBreaths iM_orderMany iM_orderSum iM_leastOrder rM_often iM_setMany iM_someOf iM_allOf iM_allWeight iM_enoughWeight iM_worthSum iM_firstRest iM_leastDrawn), (arI rM_r kM_r 287 fM_r), (arI rM_told kM_told 90 fM_told), (arI rQ kQ 90 fQ)] [(kM_r, .int), (kM_told, .int), (kQ, .int)] t) (va_A [(oc7 oM iM_thrown rM_tape iM_taped iM_size iM_at iM_end iM_token iM_whole iM_nameSize iM_fault iM_place iM_trouble rM_letters iM_failed iM_hasCourt rM_r rM_fresh rM_told rM_read rM_st rM_undone rM_kept iM_undos iM_images rM_fresher iM_fresherSize iM_scale iM_night rM_heardRow rM_cutRow iM_breaths iM_cutMany iM_allBreaths rM_trial rM_words iM_fewestBreaths iM_orderMany iM_orderSum iM_leastOrder rM_often iM_setMany iM_someOf iM_allOf iM_allWeight iM_enoughWeight iM_worthSum iM_firstRest iM_leastDrawn), (arI rM_r kM_r 287 fM_r), (arI rM_told kM_told 90 fM_told), (arI rQ kQ 90 fQ)] sz)) 0 0 (va_A [(oc7 oM iM_thrown rM_tape iM_taped iM_size iM_at iM_end iM_token iM_whole iM_nameSize iM_fault iM_place iM_trouble rM_letters iM_failed iM_hasCourt rM_r rM_fresh rM_told rM_read rM_st rM_undone rM_kept iM_undos iM_images rM_fresher iM_fresherSize iM_scale iM_night rM_heardRow rM_cutRow iM_breaths iM_cutMany iM_allBreaths rM_trial rM_words iM_fewestBreaths iM_orderMany iM_orderSum iM_leastOrder rM_often iM_setMany iM_someOf iM_allOf iM_allWeight iM_enoughWeight iM_worthSum iM_firstRest iM_leastDrawn), (arI rM_r kM_r 287 fM_r), (arI rM_told kM_told 90 fM_told), (arI rQ kQ 90 fQ)] sz) :=
  tX7_worthAt_x_n l dC dI 18 sz oM iM_thrown rM_tape iM_taped iM_size iM_at iM_end iM_token iM_whole iM_nameSize iM_fault iM_place iM_trouble rM_letters iM_failed iM_hasCourt rM_r fM_r kM_r rM_fresh rM_told fM_told kM_told rM_read rM_st rM_undone rM_kept iM_undos iM_images rM_fresher iM_fresherSize iM_scale iM_night rM_heardRow rM_cutRow iM_breaths iM_cutMany iM_allBreaths rM_trial rM_words iM_fewestBreaths iM_orderMany iM_orderSum iM_leastOrder rM_often iM_setMany iM_someOf iM_allOf iM_allWeight iM_enoughWeight iM_worthSum iM_firstRest iM_leastDrawn rQ fQ kQ p0 p1 b_iM_taped b_iM_size b_iM_end b_iM_failed b_iM_hasCourt b_iM_undos b_iM_images b_iM_scale b_iM_breaths b_iM_cutMany r_R r_C r_told r_Q hk0 hnt hdp (by have q := r_R.nodes; omega)
set_option maxHeartbeats 4000000 in
set_option maxRecDepth 100000 in
theorem tX7_worthOf_x (l : Launch) (dC : Nat → ClassId) (dI : Nat → Nat → Nat) (sz : Nat) (oM : Nat) (iM_thrown : Int32) (rM_tape : Nat) (iM_taped : Int32) (iM_size : Int32) (iM_at : Int32) (iM_end : Int32) (iM_token : Int32) (iM_whole : Int32) (iM_nameSize : Int32) (iM_fault : Int32) (iM_place : Int32) (iM_trouble : Int32) (rM_letters : Nat) (iM_failed : Int32) (iM_hasCourt : Int32) (rM_r : Nat) (fM_r : Nat → Int32) (kM_r : ClassId) (rM_fresh : Nat) (rM_told : Nat) (fM_told : Nat → Int32) (kM_told : ClassId) (rM_read : Nat) (rM_st : Nat) (rM_undone : Nat) (rM_kept : Nat) (iM_undos : Int32) (iM_images : Int32) (rM_fresher : Nat) (iM_fresherSize : Int32) (iM_scale : Int32) (iM_night : Int32) (rM_heardRow : Nat) (rM_cutRow : Nat) (iM_breaths : Int32) (iM_cutMany : Int32) (iM_allBreaths : Int32) (rM_trial : Nat) (rM_words : Nat) (iM_fewestBreaths : Int32) (iM_orderMany : Int32) (iM_orderSum : Int32) (iM_leastOrder : Int32) (rM_often : Nat) (iM_setMany : Int32) (iM_someOf : Int32) (iM_allOf : Int32) (iM_allWeight : Int64) (iM_enoughWeight : Int64) (iM_worthSum : Int64) (iM_firstRest : Int32) (iM_leastDrawn : Int32) (rQ : Nat) (fQ : Nat → Int32) (kQ : ClassId) (p0 : Int32) (b_iM_taped : 0 ≤ iM_taped.toInt ∧ iM_taped.toInt ≤ 900) (b_iM_size : 0 ≤ iM_size.toInt ∧ iM_size.toInt ≤ 900) (b_iM_end : 0 ≤ iM_end.toInt ∧ iM_end.toInt ≤ 900) (b_iM_failed : 0 ≤ iM_failed.toInt ∧ iM_failed.toInt ≤ 1) (b_iM_hasCourt : 0 ≤ iM_hasCourt.toInt ∧ iM_hasCourt.toInt ≤ 1) (b_iM_undos : 0 ≤ iM_undos.toInt ∧ iM_undos.toInt ≤ 16) (b_iM_images : 0 ≤ iM_images.toInt ∧ iM_images.toInt ≤ 3) (b_iM_scale : 1 ≤ iM_scale.toInt ∧ iM_scale.toInt ≤ 1296) (b_iM_breaths : 0 ≤ iM_breaths.toInt ∧ iM_breaths.toInt ≤ 399) (b_iM_cutMany : 0 ≤ iM_cutMany.toInt ∧ iM_cutMany.toInt ≤ 399) (r_R : ROk fM_r) (r_C : iM_hasCourt.toInt ≤ 0 ∨ (1 ≤ (fM_r 1).toInt ∧ 0 ≤ (fM_r 6).toInt ∧ (fM_r 6).toInt < (fM_r 1).toInt)) (r_told : RowOk fM_r fM_told) (r_Q : RowOk fM_r fQ) (hk0 : 0 ≤ p0.toInt ∧ p0.toInt < (fM_r 1).toInt) (hnt : iM_night.toInt = -1) : Met l yX7_worthOf (Cond.code yX7_worthOf cX7_worthOf 3 (some .int) :: wG) ({ frames := 20, cells := 0, slots := 0, locals := 542 }) (va_Pc [.ref oM, .ref rQ, .int p0] (Pw dC dI sz [(oc7 oM iM_thrown rM_tape iM_taped iM_size iM_at iM_end iM_token iM_whole iM_nameSize iM_fault iM_place iM_trouble rM_letters iM_failed iM_hasCourt rM_r rM_fresh rM_told rM_read rM_st rM_undone rM_kept iM_undos iM_images rM_fresher iM_fresherSize iM_scale iM_night rM_heardRow rM_cutRow iM_breaths iM_cutMany iM_allBreaths rM_trial rM_words iM_fewestBreaths iM_orderMany iM_orderSum iM_leastOrder rM_often iM_setMany iM_someOf iM_allOf iM_allWeight iM_enoughWeight iM_worthSum iM_firstRest iM_leastDrawn), (arI rM_r kM_r 287 fM_r), (arI rM_told kM_told 90 fM_told), (arI rQ kQ 90 fQ)] [(kM_r, .int), (kM_told, .int), (kQ, .int)])) (va_Qi (fun (r : Int32) (_ : Nat) => (True ∧ (r = rval fM_r fM_told fQ iM_scale 18 p0.toNatClampNeg)) ∧ PX7_worthOf fM_r fM_told iM_scale iM_night fQ p0 = r) (fun (_ : Nat) (t : State) => Bw dC dI (va_A [(oc7 oM iM_thrown rM_tape iM_taped iM_size iM_at iM_end iM_token iM_whole iM_nameSize iM_fault iM_place iM_trouble rM_letters iM_failed iM_hasCourt rM_r rM_fresh rM_told rM_read rM_st rM_undone rM_kept iM_undos iM_images rM_fresher iM_fresherSize iM_scale iM_night rM_heardRow rM_cutRow iM_breaths iM_cutMany iM_allBreaths rM_trial rM_words iM_fewestBreaths iM_orderMany iM_orderSum iM_leastOrder rM_often iM_setMany iM_someOf iM_allOf iM_allWeight iM_enoughWeight iM_worthSum iM_firstRest iM_leastDrawn), (arI rM_r kM_r 287 fM_r), (arI rM_told kM_told 90 fM_told), (arI rQ kQ 90 fQ)] sz) [(oc7 oM iM_thrown rM_tape iM_taped iM_size iM_at iM_end iM_token iM_whole iM_nameSize iM_fault iM_place iM_trouble rM_letters iM_failed iM_hasCourt rM_r rM_fresh rM_told rM_read rM_st rM_undone rM_kept iM_undos iM_images rM_fresher iM_fresherSize iM_scale iM_night rM_heardRow rM_cutRow iM_breaths iM_cutMany iM_allBreaths rM_trial rM_words iM_fewestBreaths iM_orderMany iM_orderSum iM_leastOrder rM_often iM_setMany iM_someOf iM_allOf iM_allWeight iM_enoughWeight iM_worthSum iM_firstRest iM_leastDrawn), (arI rM_r kM_r 287 fM_r), (arI rM_told kM_told 90 fM_told), (arI rQ kQ 90 fQ)] [(kM_r, .int), (kM_told, .int), (kQ, .int)] t) (va_A [(oc7 oM iM_thrown rM_tape iM_taped iM_size iM_at iM_end iM_token iM_whole iM_nameSize iM_fault iM_place iM_trouble rM_letters iM_failed iM_hasCourt rM_r rM_fresh rM_told rM_read rM_st rM_undone rM_kept iM_undos iM_images rM_fresher iM_fresherSize iM_scale iM_night rM_heardRow rM_cutRow iM_breaths iM_cutMany iM_allBreaths rM_trial rM_words iM_fewestBreaths iM_orderMany iM_orderSum iM_leastOrder rM_often iM_setMany iM_someOf iM_allOf iM_allWeight iM_enoughWeight iM_worthSum iM_firstRest iM_leastDrawn), (arI rM_r kM_r 287 fM_r), (arI rM_told kM_told 90 fM_told), (arI rQ kQ 90 fQ)] sz)) 0 0 (va_A [(oc7 oM iM_thrown rM_tape iM_taped iM_size iM_at iM_end iM_token iM_whole iM_nameSize iM_fault iM_place iM_trouble rM_letters iM_failed iM_hasCourt rM_r rM_fresh rM_told rM_read rM_st rM_undone rM_kept iM_undos iM_images rM_fresher iM_fresherSize iM_scale iM_night rM_heardRow rM_cutRow iM_breaths iM_cutMany iM_allBreaths rM_trial rM_words iM_fewestBreaths iM_orderMany iM_orderSum iM_leastOrder rM_often iM_setMany iM_someOf iM_allOf iM_allWeight iM_enoughWeight iM_worthSum iM_firstRest iM_leastDrawn), (arI rM_r kM_r 287 fM_r), (arI rM_told kM_told 90 fM_told), (arI rQ kQ 90 fQ)] sz) := by
  refine Met.ofW (cc := cX7_worthOf) (maxL := 3) (ret := (some .int)) pnX7 rfl ?_
  intro p e s m args below meth c s₁ B hml hv
  obtain ⟨rfl, hsz, hP, hK, hD0, hE⟩ := hv
  have hx := B.exec
  have hb := B.bytes
  have hr := B.returns
  have hts : ∀ w ∈ wG, w.before ([.ref oM, .ref rQ, .int p0] : List Value).toArray s = true := fun w h => atoms_spec (ws := Cond.code yX7_worthOf cX7_worthOf 3 (some .int) :: wG) B.pre w (List.mem_cons_of_mem _ h)
  have hown : s.vm.findClass RX7 = some m.cls := own_of B.named rfl
  have hlocks := B.notSynchronized
  subst hsz
  have hD := hD0.self (sz := s.heap.size)
  generalize hAe : va_A [(oc7 oM iM_thrown rM_tape iM_taped iM_size iM_at iM_end iM_token iM_whole iM_nameSize iM_fault iM_place iM_trouble rM_letters iM_failed iM_hasCourt rM_r rM_fresh rM_told rM_read rM_st rM_undone rM_kept iM_undos iM_images rM_fresher iM_fresherSize iM_scale iM_night rM_heardRow rM_cutRow iM_breaths iM_cutMany iM_allBreaths rM_trial rM_words iM_fewestBreaths iM_orderMany iM_orderSum iM_leastOrder rM_often iM_setMany iM_someOf iM_allOf iM_allWeight iM_enoughWeight iM_worthSum iM_firstRest iM_leastDrawn), (arI rM_r kM_r 287 fM_r), (arI rM_told kM_told 90 fM_told), (arI rQ kQ 90 fQ)] s.heap.size = A at hD hE ⊢
  have hA : ∀ q : Nat, s.heap.size ≤ q → A q := fun q h => by rw [← hAe]; exact Or.inr h
  have hS : va_S A s.heap s.heap [] := va_S.rf
  have hl := lv_entry ([.ref oM, .ref rQ, .int p0]) (n := 3) (Nat.le_of_ble_eq_true rfl)
  rw [lg_entry_eq]
  generalize (lg_sl ([.ref oM, .ref rQ, .int p0]) ++ List.replicate (3 - (lg_sl ([.ref oM, .ref rQ, .int p0])).length) Slot.unset).toArray = ls at hl ⊢
  have hl : lv_has ls 3 [(0, .ref oM), (1, .ref rQ), (2, .int p0)] := hl
  have hG := PX7_worthOf_eq fM_r fM_told iM_scale iM_night fQ p0
  have s_slips := r_R.slips
  have s_nodes := r_R.nodes
  have s_uns := r_R.uns
  have q_p0 := ti_cl (x := p0) rfl hk0.1
  have mn_p0 := r_R.many (27 + p0.toNatClampNeg) (Nat.le_add_right _ _) (om_6c263690 (ti_cl (x := p0) rfl hk0.1) hk0.2 s_nodes.2)
  have kn_p0 := r_R.kind (9 + p0.toNatClampNeg) (Nat.le_add_right _ _) (om_57ce868b (ti_cl (x := p0) rfl hk0.1) hk0.2 s_nodes.2)
  have in_p0 := r_R.inner p0.toNatClampNeg (om_05d4ad0a (ti_cl (x := p0) rfl hk0.1) hk0.2)
  refine lv_aload_n hx hb dX7_worthOf_0 rfl (lv_at hl 0 rfl) ?_
  refine lv_aload_n hx hb dX7_worthOf_1 rfl (lv_at hl 1 rfl) ?_
  refine lv_iload_n hx hb dX7_worthOf_2 rfl (lv_at hl 2 rfl) ?_
  refine lv_iconst (v := 0) hx hb dX7_worthOf_3 (by decide) ?_
  have hFc := va_freeI hD hS hA
  refine va_calli (va_runV (As := [.ref rQ, .int p0, .int 0]) (rest := []) ⟨hx, hb, hml, hown, hts⟩ (tX7_worthAt_x l dC dI _ oM iM_thrown rM_tape iM_taped iM_size iM_at iM_end iM_token iM_whole iM_nameSize iM_fault iM_place iM_trouble rM_letters iM_failed iM_hasCourt rM_r fM_r kM_r rM_fresh rM_told fM_told kM_told rM_read rM_st rM_undone rM_kept iM_undos iM_images rM_fresher iM_fresherSize iM_scale iM_night rM_heardRow rM_cutRow iM_breaths iM_cutMany iM_allBreaths rM_trial rM_words iM_fewestBreaths iM_orderMany iM_orderSum iM_leastOrder rM_often iM_setMany iM_someOf iM_allOf iM_allWeight iM_enoughWeight iM_worthSum iM_firstRest iM_leastDrawn rQ fQ kQ p0 0 b_iM_taped b_iM_size b_iM_end b_iM_failed b_iM_hasCourt b_iM_undos b_iM_images b_iM_scale b_iM_breaths b_iM_cutMany (by assumption) (by assumption) (by assumption) (by assumption) ⟨hk0.1, hk0.2⟩ hnt ⟨(om_b1de7dbe kc_0), (om_999e7d75 hk0.2 s_nodes.2 kc_0)⟩) (cwV 3 hts (wd_V wd_649 wd_650 wd_651 wd_5 (wd_c wd_652)) rfl rfl rfl dv_yX7_worthAt_3 ⟨Nat.le_of_ble_eq_true rfl, Nat.le_of_ble_eq_true rfl⟩) ⟨Pw.fb, recvX7 hK hP (q0 := 0) rfl, fun U hU hW => Pw.to hP hD hK hE hS hFc hU hW⟩ rfl rfl hl.1 rfl (lv_room (Nat.le_of_ble_eq_true rfl)) dX7_worthOf_4 ⟨Nat.le_of_ble_eq_true rfl, Nat.le_of_ble_eq_true rfl⟩) hS (fun q _ h => hFc q h) hFc (fun r u t H locs ht hvm hw hB hz1 hk1 hS => ?_)
  have hru9 := hw.2
  have hw := hw.1
  obtain ⟨hP, hD⟩ := Bw.goA (ws' := [(oc7 oM iM_thrown rM_tape iM_taped iM_size iM_at iM_end iM_token iM_whole iM_nameSize iM_fault iM_place iM_trouble rM_letters iM_failed iM_hasCourt rM_r rM_fresh rM_told rM_read rM_st rM_undone rM_kept iM_undos iM_images rM_fresher iM_fresherSize iM_scale iM_night rM_heardRow rM_cutRow iM_breaths iM_cutMany iM_allBreaths rM_trial rM_words iM_fewestBreaths iM_orderMany iM_orderSum iM_leastOrder rM_often iM_setMany iM_someOf iM_allOf iM_allWeight iM_enoughWeight iM_worthSum iM_firstRest iM_leastDrawn), (arI rM_r kM_r 287 fM_r), (arI rM_told kM_told 90 fM_told), (arI rQ kQ 90 fQ)]) hB rfl ht hFc rfl
  clear hz1 hk1 hvm ht hB
  obtain ⟨x_4653, rfl⟩ : ∃ z, z = r := ⟨_, rfl⟩
  have hG := hG.trans (lt_eq hru9.symm)
  have lx_4653 := hw.2
  exact wq_i hx hb hr 0 ⟨⟨trivial, lx_4653⟩, hG⟩ (fun t ht hW => Bw.to hP hD hK ht hW) hS dX7_worthOf_7 hlocks
set_option maxHeartbeats 4000000 in
set_option maxRecDepth 100000 in
theorem tX7_bestOf (l : Launch) (dC : Nat → ClassId) (dI : Nat → Nat → Nat) (sz : Nat) (oM : Nat) (iM_thrown : Int32) (rM_tape : Nat) (iM_taped : Int32) (iM_size : Int32) (iM_at : Int32) (iM_end : Int32) (iM_token : Int32) (iM_whole : Int32) (iM_nameSize : Int32) (iM_fault : Int32) (iM_place : Int32) (iM_trouble : Int32) (rM_letters : Nat) (iM_failed : Int32) (iM_hasCourt : Int32) (rM_r : Nat) (fM_r : Nat → Int32) (kM_r : ClassId) (rM_fresh : Nat) (rM_told : Nat) (fM_told : Nat → Int32) (kM_told : ClassId) (rM_read : Nat) (rM_st : Nat) (fM_st : Nat → Int32) (kM_st : ClassId) (rM_undone : Nat) (rM_kept : Nat) (iM_undos : Int32) (iM_images : Int32) (rM_fresher : Nat) (iM_fresherSize : Int32) (iM_scale : Int32) (iM_night : Int32) (rM_heardRow : Nat) (rM_cutRow : Nat) (iM_breaths : Int32) (iM_cutMany : Int32) (iM_allBreaths : Int32) (rM_trial : Nat) (rM_words : Nat) (iM_fewestBreaths : Int32) (iM_orderMany : Int32) (iM_orderSum : Int32) (iM_leastOrder : Int32) (rM_often : Nat) (iM_setMany : Int32) (iM_someOf : Int32) (iM_allOf : Int32) (iM_allWeight : Int64) (iM_enoughWeight : Int64) (iM_worthSum : Int64) (iM_firstRest : Int32) (iM_leastDrawn : Int32) (p0 : Int32) (b_iM_taped : 0 ≤ iM_taped.toInt ∧ iM_taped.toInt ≤ 900) (b_iM_size : 0 ≤ iM_size.toInt ∧ iM_size.toInt ≤ 900) (b_iM_end : 0 ≤ iM_end.toInt ∧ iM_end.toInt ≤ 900) (b_iM_failed : 0 ≤ iM_failed.toInt ∧ iM_failed.toInt ≤ 1) (b_iM_hasCourt : 0 ≤ iM_hasCourt.toInt ∧ iM_hasCourt.toInt ≤ 1) (b_iM_undos : 0 ≤ iM_undos.toInt ∧ iM_undos.toInt ≤ 16) (b_iM_images : 0 ≤ iM_images.toInt ∧ iM_images.toInt ≤ 3) (b_iM_scale : 1 ≤ iM_scale.toInt ∧ iM_scale.toInt ≤ 1296) (b_iM_breaths : 0 ≤ iM_breaths.toInt ∧ iM_breaths.toInt ≤ 399) (b_iM_cutMany : 0 ≤ iM_cutMany.toInt ∧ iM_cutMany.toInt ≤ 399) (r_R : ROk fM_r) (r_C : iM_hasCourt.toInt ≤ 0 ∨ (1 ≤ (fM_r 1).toInt ∧ 0 ≤ (fM_r 6).toInt ∧ (fM_r 6).toInt < (fM_r 1).toInt)) (r_st : RowOk fM_r fM_st) (r_told : RowOk fM_r fM_told) (r_wst : WorOk fM_st) (hk0 : 0 ≤ p0.toInt ∧ p0.toInt < (fM_r 1).toInt) (hnt : iM_night.toInt = -1) : Met l yX7_bestOf (Cond.code yX7_bestOf cX7_bestOf 3 (some .int) :: wG) ({ frames := 21, cells := 0, slots := 0, locals := 564 }) (va_Pc [.ref oM, .int p0] (Pw dC dI sz [(oc7 oM iM_thrown rM_tape iM_taped iM_size iM_at iM_end iM_token iM_whole iM_nameSize iM_fault iM_place iM_trouble rM_letters iM_failed iM_hasCourt rM_r rM_fresh rM_told rM_read rM_st rM_undone rM_kept iM_undos iM_images rM_fresher iM_fresherSize iM_scale iM_night rM_heardRow rM_cutRow iM_breaths iM_cutMany iM_allBreaths rM_trial rM_words iM_fewestBreaths iM_orderMany iM_orderSum iM_leastOrder rM_often iM_setMany iM_someOf iM_allOf iM_allWeight iM_enoughWeight iM_worthSum iM_firstRest iM_leastDrawn), (arI rM_r kM_r 287 fM_r), (arI rM_told kM_told 90 fM_told), (arI rM_st kM_st 90 fM_st)] [(kM_r, .int), (kM_told, .int), (kM_st, .int)])) (va_Qi (fun (r : Int32) (_ : Nat) => (True ∧ (-2 ≤ r.toInt ∧ r.toInt < p0.toInt ∧ r.toInt ≤ 17)) ∧ PX7_bestOf fM_r fM_told fM_st iM_scale iM_night p0 = r) (fun (_ : Nat) (t : State) => Bw dC dI (va_A [(oc7 oM iM_thrown rM_tape iM_taped iM_size iM_at iM_end iM_token iM_whole iM_nameSize iM_fault iM_place iM_trouble rM_letters iM_failed iM_hasCourt rM_r rM_fresh rM_told rM_read rM_st rM_undone rM_kept iM_undos iM_images rM_fresher iM_fresherSize iM_scale iM_night rM_heardRow rM_cutRow iM_breaths iM_cutMany iM_allBreaths rM_trial rM_words iM_fewestBreaths iM_orderMany iM_orderSum iM_leastOrder rM_often iM_setMany iM_someOf iM_allOf iM_allWeight iM_enoughWeight iM_worthSum iM_firstRest iM_leastDrawn), (arI rM_r kM_r 287 fM_r), (arI rM_told kM_told 90 fM_told), (arI rM_st kM_st 90 fM_st)] sz) [(oc7 oM iM_thrown rM_tape iM_taped iM_size iM_at iM_end iM_token iM_whole iM_nameSize iM_fault iM_place iM_trouble rM_letters iM_failed iM_hasCourt rM_r rM_fresh rM_told rM_read rM_st rM_undone rM_kept iM_undos iM_images rM_fresher iM_fresherSize iM_scale iM_night rM_heardRow rM_cutRow iM_breaths iM_cutMany iM_allBreaths rM_trial rM_words iM_fewestBreaths iM_orderMany iM_orderSum iM_leastOrder rM_often iM_setMany iM_someOf iM_allOf iM_allWeight iM_enoughWeight iM_worthSum iM_firstRest iM_leastDrawn), (arI rM_r kM_r 287 fM_r), (arI rM_told kM_told 90 fM_told), (arI rM_st kM_st 90 fM_st)] [(kM_r, .int), (kM_told, .int), (kM_st, .int)] t) (va_A [(oc7 oM iM_thrown rM_tape iM_taped iM_size iM_at iM_end iM_token iM_whole iM_nameSize iM_fault iM_place iM_trouble rM_letters iM_failed iM_hasCourt rM_r rM_fresh rM_told rM_read rM_st rM_undone rM_kept iM_undos iM_images rM_fresher iM_fresherSize iM_scale iM_night rM_heardRow rM_cutRow iM_breaths iM_cutMany iM_allBreaths rM_trial rM_words iM_fewestBreaths iM_orderMany iM_orderSum iM_leastOrder rM_often iM_setMany iM_someOf iM_allOf iM_allWeight iM_enoughWeight iM_worthSum iM_firstRest iM_leastDrawn), (arI rM_r kM_r 287 fM_r), (arI rM_told kM_told 90 fM_told), (arI rM_st kM_st 90 fM_st)] sz)) 0 0 (va_A [(oc7 oM iM_thrown rM_tape iM_taped iM_size iM_at iM_end iM_token iM_whole iM_nameSize iM_fault iM_place iM_trouble rM_letters iM_failed iM_hasCourt rM_r rM_fresh rM_told rM_read rM_st rM_undone rM_kept iM_undos iM_images rM_fresher iM_fresherSize iM_scale iM_night rM_heardRow rM_cutRow iM_breaths iM_cutMany iM_allBreaths rM_trial rM_words iM_fewestBreaths iM_orderMany iM_orderSum iM_leastOrder rM_often iM_setMany iM_someOf iM_allOf iM_allWeight iM_enoughWeight iM_worthSum iM_firstRest iM_leastDrawn), (arI rM_r kM_r 287 fM_r), (arI rM_told kM_told 90 fM_told), (arI rM_st kM_st 90 fM_st)] sz) := by
  refine Met.ofW (cc := cX7_bestOf) (maxL := 3) (ret := (some .int)) pnX7 rfl ?_
  intro p e s m args below meth c s₁ B hml hv
  obtain ⟨rfl, hsz, hP, hK, hD0, hE⟩ := hv
  have hx := B.exec
  have hb := B.bytes
  have hr := B.returns
  have hts : ∀ w ∈ wG, w.before ([.ref oM, .int p0] : List Value).toArray s = true := fun w h => atoms_spec (ws := Cond.code yX7_bestOf cX7_bestOf 3 (some .int) :: wG) B.pre w (List.mem_cons_of_mem _ h)
  have hown : s.vm.findClass RX7 = some m.cls := own_of B.named rfl
  have hlocks := B.notSynchronized
  subst hsz
  have hD := hD0.self (sz := s.heap.size)
  generalize hAe : va_A [(oc7 oM iM_thrown rM_tape iM_taped iM_size iM_at iM_end iM_token iM_whole iM_nameSize iM_fault iM_place iM_trouble rM_letters iM_failed iM_hasCourt rM_r rM_fresh rM_told rM_read rM_st rM_undone rM_kept iM_undos iM_images rM_fresher iM_fresherSize iM_scale iM_night rM_heardRow rM_cutRow iM_breaths iM_cutMany iM_allBreaths rM_trial rM_words iM_fewestBreaths iM_orderMany iM_orderSum iM_leastOrder rM_often iM_setMany iM_someOf iM_allOf iM_allWeight iM_enoughWeight iM_worthSum iM_firstRest iM_leastDrawn), (arI rM_r kM_r 287 fM_r), (arI rM_told kM_told 90 fM_told), (arI rM_st kM_st 90 fM_st)] s.heap.size = A at hD hE ⊢
  have hA : ∀ q : Nat, s.heap.size ≤ q → A q := fun q h => by rw [← hAe]; exact Or.inr h
  have hS : va_S A s.heap s.heap [] := va_S.rf
  have hl := lv_entry ([.ref oM, .int p0]) (n := 3) (Nat.le_of_ble_eq_true rfl)
  rw [lg_entry_eq]
  generalize (lg_sl ([.ref oM, .int p0]) ++ List.replicate (3 - (lg_sl ([.ref oM, .int p0])).length) Slot.unset).toArray = ls at hl ⊢
  have hl : lv_has ls 3 [(0, .ref oM), (1, .int p0)] := hl
  have hG := PX7_bestOf_eq fM_r fM_told fM_st iM_scale iM_night p0
  have s_slips := r_R.slips
  have s_nodes := r_R.nodes
  have s_uns := r_R.uns
  have q_p0 := ti_cl (x := p0) rfl hk0.1
  have mn_p0 := r_R.many (27 + p0.toNatClampNeg) (Nat.le_add_right _ _) (om_6c263690 (ti_cl (x := p0) rfl hk0.1) hk0.2 s_nodes.2)
  have kn_p0 := r_R.kind (9 + p0.toNatClampNeg) (Nat.le_add_right _ _) (om_57ce868b (ti_cl (x := p0) rfl hk0.1) hk0.2 s_nodes.2)
  have in_p0 := r_R.inner p0.toNatClampNeg (om_05d4ad0a (ti_cl (x := p0) rfl hk0.1) hk0.2)
  refine lv_aload_n hx hb dX7_bestOf_0 rfl (lv_at hl 0 rfl) ?_
  refine va_get (D := (dC, dI)) (ci := 7) (v := .ref rM_r) (C := RX7) (T := TX7) (N := 48) hx hb hts inX7 hown hK hP 0 rfl rfl 15 (by decide) (hts _ wd_155) (fun _ h9 => h9) rfl dX7_bestOf_1 ?_
  refine lv_bipush (v := 9) hx hb dX7_bestOf_4 (by decide) ?_
  refine lv_iload_n hx hb dX7_bestOf_6 rfl (lv_at hl 1 rfl) ?_
  refine lv_iadd hx hb dX7_bestOf_7 ?_
  refine lv_topi (fun x_4684 ex_4684 => ?_)
  have hG := hG.trans (lt_eq ex_4684)
  have vx_4684 : x_4684.toInt = p0.toInt + 9 := om_296ce4dd (ti_add ex_4684 kc_9 rfl (om_090bbef4 hk0.1) (om_79f05b99 hk0.2 s_nodes.2))
  refine va_iald hx hb hK hP 1 0 rfl rfl (ti_in vx_4684 (om_edbe2e4c hk0.1) (om_c4df49a1 hk0.2 s_nodes.2)) dX7_bestOf_8 ?_
  refine lv_topi (fun x_4685 ex_4685 => ?_)
  have hG := hG.trans (lt_eq ex_4685)
  have kx_4685 : (fM_r x_4684.toNatClampNeg).toInt = x_4685.toInt := by rw [ex_4685]
  have cx_4685 : (fM_r (9 + p0.toNatClampNeg)).toInt = x_4685.toInt := by rw [show 9 + p0.toNatClampNeg = x_4684.toNatClampNeg from (om_32f1c3e7 (ti_cl (x := p0) rfl hk0.1) (ti_cl (x := x_4684) vx_4684 (om_edbe2e4c hk0.1)))]; exact kx_4685
  have sx_4685 := r_R.kind x_4684.toNatClampNeg (om_462cc4af (ti_cl (x := x_4684) vx_4684 (om_edbe2e4c hk0.1)) hk0.1) (om_7afb9f20 (ti_cl (x := x_4684) vx_4684 (om_edbe2e4c hk0.1)) hk0.2 s_nodes.2)
  refine lv_iconst (v := 1) hx hb dX7_bestOf_9 (by decide) ?_
  refine lv_icmp_eq (tgt := 29) hx hb dX7_bestOf_10 (by decide) (fun c_4686 => ?_) (fun c_4686 => ?_)
  · skip
    have hG := hG.trans (if_pos c_4686)
    have gc_4686 := ti_eq c_4686 rfl kc_1
    refine lv_iconst (v := 0) hx hb dX7_bestOf_29 (by decide) ?_
    refine lv_istore_n (lv' := [(2, .int 0), (0, .ref oM), (1, .int p0)]) hx hb dX7_bestOf_30 rfl hl (by decide) rfl (fun ls hl => ?_)
    have hl := lv_sub hl (l' := [(2, .int 0), (0, .ref oM), (1, .int p0)]) [0, 1, 2] rfl
    have key_n_4688 : ∀ (n_4688 : Nat) (z_4687 : Int32) (H : Heap) (locs : List Loc) (ls : Array Slot), (0 ≤ z_4687.toInt ∧ z_4687.toInt < (fM_r (27 + p0.toNatClampNeg)).toInt) → (BestJ fM_r fM_told fM_st iM_scale p0.toNatClampNeg z_4687.toInt) → ((fM_r (27 + p0.toNatClampNeg)).toInt - z_4687.toInt).toNat < n_4688 → (PX7_bestOf fM_r fM_told fM_st iM_scale iM_night p0 = HX7_bestOf_0 fM_r fM_told fM_st iM_scale iM_night p0 n_4688 z_4687) → va_P (dC, dI) vwCl [(oc7 oM iM_thrown rM_tape iM_taped iM_size iM_at iM_end iM_token iM_whole iM_nameSize iM_fault iM_place iM_trouble rM_letters iM_failed iM_hasCourt rM_r rM_fresh rM_told rM_read rM_st rM_undone rM_kept iM_undos iM_images rM_fresher iM_fresherSize iM_scale iM_night rM_heardRow rM_cutRow iM_breaths iM_cutMany iM_allBreaths rM_trial rM_words iM_fewestBreaths iM_orderMany iM_orderSum iM_leastOrder rM_often iM_setMany iM_someOf iM_allOf iM_allWeight iM_enoughWeight iM_worthSum iM_firstRest iM_leastDrawn), (arI rM_r kM_r 287 fM_r), (arI rM_told kM_told 90 fM_told), (arI rM_st kM_st 90 fM_st)] H → va_D A [(oc7 oM iM_thrown rM_tape iM_taped iM_size iM_at iM_end iM_token iM_whole iM_nameSize iM_fault iM_place iM_trouble rM_letters iM_failed iM_hasCourt rM_r rM_fresh rM_told rM_read rM_st rM_undone rM_kept iM_undos iM_images rM_fresher iM_fresherSize iM_scale iM_night rM_heardRow rM_cutRow iM_breaths iM_cutMany iM_allBreaths rM_trial rM_words iM_fewestBreaths iM_orderMany iM_orderSum iM_leastOrder rM_often iM_setMany iM_someOf iM_allOf iM_allWeight iM_enoughWeight iM_worthSum iM_firstRest iM_leastDrawn), (arI rM_r kM_r 287 fM_r), (arI rM_told kM_told 90 fM_told), (arI rM_st kM_st 90 fM_st)] → va_S A s.heap H locs → lv_has ls 3 [(2, .int z_4687), (0, .ref oM), (1, .int p0)] → W p l e (headSpec (Cond.code yX7_bestOf cX7_bestOf 3 (some .int) :: wG) ({ frames := 21, cells := 0, slots := 0, locals := 564 })).room s m ([.ref oM, .int p0] : List Value).toArray below meth c H locs 0 0 (MQ below (va_Qi (fun (r : Int32) (_ : Nat) => (True ∧ (-2 ≤ r.toInt ∧ r.toInt < p0.toInt ∧ r.toInt ≤ 17)) ∧ PX7_bestOf fM_r fM_told fM_st iM_scale iM_night p0 = r) (fun (_ : Nat) (t : State) => Bw dC dI A [(oc7 oM iM_thrown rM_tape iM_taped iM_size iM_at iM_end iM_token iM_whole iM_nameSize iM_fault iM_place iM_trouble rM_letters iM_failed iM_hasCourt rM_r rM_fresh rM_told rM_read rM_st rM_undone rM_kept iM_undos iM_images rM_fresher iM_fresherSize iM_scale iM_night rM_heardRow rM_cutRow iM_breaths iM_cutMany iM_allBreaths rM_trial rM_words iM_fewestBreaths iM_orderMany iM_orderSum iM_leastOrder rM_often iM_setMany iM_someOf iM_allOf iM_allWeight iM_enoughWeight iM_worthSum iM_firstRest iM_leastDrawn), (arI rM_r kM_r 287 fM_r), (arI rM_told kM_told 90 fM_told), (arI rM_st kM_st 90 fM_st)] [(kM_r, .int), (kM_told, .int), (kM_st, .int)] t) A) ([.ref oM, .int p0] : List Value).toArray s 0 0 A) (F0 m 31 ls []) := by
      intro n_4688
      induction n_4688 with
      | zero => intro z_4687 H locs ls hi0_n_4688 hi1_n_4688 hm; exact absurd hm (Nat.not_lt_zero _)
      | succ n_4688 ih_n_4688 =>
        intro z_4687 H locs ls hi0_n_4688 hi1_n_4688 hm_n_4688 hG hP hD hS hl
        have hG := hG.trans (HX7_bestOf_0_eq _ _ _ _ _ _ _ _)
        refine lv_aload_n hx hb dX7_bestOf_31 rfl (lv_at hl 1 rfl) ?_
        refine lv_aload_n hx hb dX7_bestOf_32 rfl (lv_at hl 1 rfl) ?_
        refine va_get (D := (dC, dI)) (ci := 7) (v := .ref rM_st) (C := RX7) (T := TX7) (N := 48) hx hb hts inX7 hown hK hP 0 rfl rfl 19 (by decide) (hts _ wd_159) (fun _ h9 => h9) rfl dX7_bestOf_33 ?_
        refine lv_aload_n hx hb dX7_bestOf_36 rfl (lv_at hl 1 rfl) ?_
        refine va_get (D := (dC, dI)) (ci := 7) (v := .ref rM_st) (C := RX7) (T := TX7) (N := 48) hx hb hts inX7 hown hK hP 0 rfl rfl 19 (by decide) (hts _ wd_159) (fun _ h9 => h9) rfl dX7_bestOf_37 ?_
        refine lv_iconst (v := 4) hx hb dX7_bestOf_40 (by decide) ?_
        refine lv_iload_n hx hb dX7_bestOf_41 rfl (lv_at hl 2 rfl) ?_
        refine lv_imul hx hb dX7_bestOf_42 ?_
        refine lv_topi (fun x_4689 ex_4689 => ?_)
        have hG := hG.trans (lt_eq ex_4689)
        have vx_4689 : x_4689.toInt = 4 * p0.toInt := ti_mul ex_4689 kc_4 rfl (om_56b74365 hk0.1) (om_eac0354e hk0.2 s_nodes.2)
        refine lv_iload_n hx hb dX7_bestOf_43 rfl (lv_at hl 0 rfl) ?_
        refine lv_iadd hx hb dX7_bestOf_44 ?_
        refine lv_topi (fun x_4690 ex_4690 => ?_)
        have hG := hG.trans (lt_eq ex_4690)
        have vx_4690 : x_4690.toInt = 4 * p0.toInt + z_4687.toInt := om_5d0caf0f (ti_add ex_4690 vx_4689 rfl (om_056a216f hk0.1 hi0_n_4688.1) (om_e3219df6 hk0.2 s_nodes.2 mn_p0.2 hi0_n_4688.2))
        refine va_iald hx hb hK hP 3 2 rfl rfl (ti_in vx_4690 (om_fc2812d4 hk0.1 hi0_n_4688.1) (om_b69853f0 hk0.2 s_nodes.2 mn_p0.2 hi0_n_4688.2)) dX7_bestOf_45 ?_
        refine lv_topi (fun x_4691 ex_4691 => ?_)
        have hG := hG.trans (lt_eq ex_4691)
        have kx_4691 : (fM_st x_4690.toNatClampNeg).toInt = x_4691.toInt := by rw [ex_4691]
        have cx_4691 : (fM_st (4 * p0.toNatClampNeg + z_4687.toNatClampNeg)).toInt = x_4691.toInt := by rw [show 4 * p0.toNatClampNeg + z_4687.toNatClampNeg = x_4690.toNatClampNeg from (om_4de36627 (ti_cl (x := p0) rfl hk0.1) (ti_cl (x := z_4687) rfl hi0_n_4688.1) (ti_cl (x := x_4690) vx_4690 (om_fc2812d4 hk0.1 hi0_n_4688.1)))]; exact kx_4691
        have wx_4691 : 0 ≤ x_4691.toInt ∧ x_4691.toInt < p0.toInt := row_lt r_st (i := z_4687.toNatClampNeg) (ti_cl (x := p0) rfl hk0.1) (ti_cl (x := z_4687) rfl hi0_n_4688.1) hk0.2 hi0_n_4688.2 (om_24300f0a (ti_cl (x := p0) rfl hk0.1) (ti_cl (x := z_4687) rfl hi0_n_4688.1)) cx_4691
        have hFc := va_freeI hD hS hA
        refine va_calli (va_runV (As := [.ref rM_st, .int x_4691]) (rest := []) ⟨hx, hb, hml, hown, hts⟩ (tX7_worthOf_x l dC dI _ oM iM_thrown rM_tape iM_taped iM_size iM_at iM_end iM_token iM_whole iM_nameSize iM_fault iM_place iM_trouble rM_letters iM_failed iM_hasCourt rM_r fM_r kM_r rM_fresh rM_told fM_told kM_told rM_read rM_st rM_undone rM_kept iM_undos iM_images rM_fresher iM_fresherSize iM_scale iM_night rM_heardRow rM_cutRow iM_breaths iM_cutMany iM_allBreaths rM_trial rM_words iM_fewestBreaths iM_orderMany iM_orderSum iM_leastOrder rM_often iM_setMany iM_someOf iM_allOf iM_allWeight iM_enoughWeight iM_worthSum iM_firstRest iM_leastDrawn rM_st fM_st kM_st x_4691 b_iM_taped b_iM_size b_iM_end b_iM_failed b_iM_hasCourt b_iM_undos b_iM_images b_iM_scale b_iM_breaths b_iM_cutMany (by assumption) (by assumption) (by assumption) (by assumption) ⟨wx_4691.1, (om_90a71968 hk0.2 wx_4691.2)⟩ hnt) (cwV 2 hts (wd_V wd_645 wd_646 wd_647 wd_5 (wd_c wd_648)) rfl rfl rfl dv_yX7_worthOf_2 ⟨Nat.le_of_ble_eq_true rfl, Nat.le_of_ble_eq_true rfl⟩) ⟨Pw.fb, recvX7 hK hP (q0 := 0) rfl, fun U hU hW => Pw.to hP hD hK hE hS hFc hU hW⟩ rfl rfl hl.1 rfl (lv_room (Nat.le_of_ble_eq_true rfl)) dX7_bestOf_46 ⟨Nat.le_of_ble_eq_true rfl, Nat.le_of_ble_eq_true rfl⟩) hS (fun q _ h => hFc q h) hFc (fun r u t H locs ht hvm hw hB hz1 hk1 hS => ?_)
        have hru9 := hw.2
        have hw := hw.1
        obtain ⟨hP, hD⟩ := Bw.goA (ws' := [(oc7 oM iM_thrown rM_tape iM_taped iM_size iM_at iM_end iM_token iM_whole iM_nameSize iM_fault iM_place iM_trouble rM_letters iM_failed iM_hasCourt rM_r rM_fresh rM_told rM_read rM_st rM_undone rM_kept iM_undos iM_images rM_fresher iM_fresherSize iM_scale iM_night rM_heardRow rM_cutRow iM_breaths iM_cutMany iM_allBreaths rM_trial rM_words iM_fewestBreaths iM_orderMany iM_orderSum iM_leastOrder rM_often iM_setMany iM_someOf iM_allOf iM_allWeight iM_enoughWeight iM_worthSum iM_firstRest iM_leastDrawn), (arI rM_r kM_r 287 fM_r), (arI rM_told kM_told 90 fM_told), (arI rM_st kM_st 90 fM_st)]) hB rfl ht hFc rfl
        clear hz1 hk1 hvm ht hB
        obtain ⟨x_4692, rfl⟩ : ∃ z, z = r := ⟨_, rfl⟩
        have hG := hG.trans (lt_eq hru9.symm)
        have lx_4692 := hw.2
        refine lv_aload_n hx hb dX7_bestOf_49 rfl (lv_at hl 1 rfl) ?_
        refine lv_aload_n hx hb dX7_bestOf_50 rfl (lv_at hl 1 rfl) ?_
        refine va_get (D := (dC, dI)) (ci := 7) (v := .ref rM_st) (C := RX7) (T := TX7) (N := 48) hx hb hts inX7 hown hK hP 0 rfl rfl 19 (by decide) (hts _ wd_159) (fun _ h9 => h9) rfl dX7_bestOf_51 ?_
        refine lv_iload_n hx hb dX7_bestOf_54 rfl (lv_at hl 2 rfl) ?_
        have hFc := va_freeI hD hS hA
        refine va_calli (va_runV (As := [.ref rM_st, .int p0]) (rest := [.int x_4692]) ⟨hx, hb, hml, hown, hts⟩ (tX7_worthOf_x l dC dI _ oM iM_thrown rM_tape iM_taped iM_size iM_at iM_end iM_token iM_whole iM_nameSize iM_fault iM_place iM_trouble rM_letters iM_failed iM_hasCourt rM_r fM_r kM_r rM_fresh rM_told fM_told kM_told rM_read rM_st rM_undone rM_kept iM_undos iM_images rM_fresher iM_fresherSize iM_scale iM_night rM_heardRow rM_cutRow iM_breaths iM_cutMany iM_allBreaths rM_trial rM_words iM_fewestBreaths iM_orderMany iM_orderSum iM_leastOrder rM_often iM_setMany iM_someOf iM_allOf iM_allWeight iM_enoughWeight iM_worthSum iM_firstRest iM_leastDrawn rM_st fM_st kM_st p0 b_iM_taped b_iM_size b_iM_end b_iM_failed b_iM_hasCourt b_iM_undos b_iM_images b_iM_scale b_iM_breaths b_iM_cutMany (by assumption) (by assumption) (by assumption) (by assumption) ⟨hk0.1, hk0.2⟩ hnt) (cwV 2 hts (wd_V wd_645 wd_646 wd_647 wd_5 (wd_c wd_648)) rfl rfl rfl dv_yX7_worthOf_2 ⟨Nat.le_of_ble_eq_true rfl, Nat.le_of_ble_eq_true rfl⟩) ⟨Pw.fb, recvX7 hK hP (q0 := 0) rfl, fun U hU hW => Pw.to hP hD hK hE hS hFc hU hW⟩ rfl rfl hl.1 rfl (lv_room (Nat.le_of_ble_eq_true rfl)) dX7_bestOf_55 ⟨Nat.le_of_ble_eq_true rfl, Nat.le_of_ble_eq_true rfl⟩) hS (fun q _ h => hFc q h) hFc (fun r u t H locs ht hvm hw hB hz1 hk1 hS => ?_)
        have hru9 := hw.2
        have hw := hw.1
        obtain ⟨hP, hD⟩ := Bw.goA (ws' := [(oc7 oM iM_thrown rM_tape iM_taped iM_size iM_at iM_end iM_token iM_whole iM_nameSize iM_fault iM_place iM_trouble rM_letters iM_failed iM_hasCourt rM_r rM_fresh rM_told rM_read rM_st rM_undone rM_kept iM_undos iM_images rM_fresher iM_fresherSize iM_scale iM_night rM_heardRow rM_cutRow iM_breaths iM_cutMany iM_allBreaths rM_trial rM_words iM_fewestBreaths iM_orderMany iM_orderSum iM_leastOrder rM_often iM_setMany iM_someOf iM_allOf iM_allWeight iM_enoughWeight iM_worthSum iM_firstRest iM_leastDrawn), (arI rM_r kM_r 287 fM_r), (arI rM_told kM_told 90 fM_told), (arI rM_st kM_st 90 fM_st)]) hB rfl ht hFc rfl
        clear hz1 hk1 hvm ht hB
        obtain ⟨x_4693, rfl⟩ : ∃ z, z = r := ⟨_, rfl⟩
        have hG := hG.trans (lt_eq hru9.symm)
        have lx_4693 := hw.2
        refine lv_icmp_eq (tgt := 67) hx hb dX7_bestOf_58 (by decide) (fun c_4694 => ?_) (fun c_4694 => ?_)
        · skip
          have hG := hG.trans (if_pos c_4694)
          have gc_4694 := ti_eq c_4694 rfl rfl
          refine lv_aload_n hx hb dX7_bestOf_67 rfl (lv_at hl 1 rfl) ?_
          refine va_get (D := (dC, dI)) (ci := 7) (v := .ref rM_st) (C := RX7) (T := TX7) (N := 48) hx hb hts inX7 hown hK hP 0 rfl rfl 19 (by decide) (hts _ wd_159) (fun _ h9 => h9) rfl dX7_bestOf_68 ?_
          refine lv_iconst (v := 4) hx hb dX7_bestOf_71 (by decide) ?_
          refine lv_iload_n hx hb dX7_bestOf_72 rfl (lv_at hl 2 rfl) ?_
          refine lv_imul hx hb dX7_bestOf_73 ?_
          refine lv_topi (fun x_4695 ex_4695 => ?_)
          have hG := hG.trans (lt_eq ex_4695)
          have vx_4695 : x_4695.toInt = 4 * p0.toInt := ti_mul ex_4695 kc_4 rfl (om_56b74365 hk0.1) (om_eac0354e hk0.2 s_nodes.2)
          refine lv_iload_n hx hb dX7_bestOf_74 rfl (lv_at hl 0 rfl) ?_
          refine lv_iadd hx hb dX7_bestOf_75 ?_
          refine lv_topi (fun x_4696 ex_4696 => ?_)
          have hG := hG.trans (lt_eq ex_4696)
          have vx_4696 : x_4696.toInt = 4 * p0.toInt + z_4687.toInt := om_5d0caf0f (ti_add ex_4696 vx_4695 rfl (om_056a216f hk0.1 hi0_n_4688.1) (om_e3219df6 hk0.2 s_nodes.2 mn_p0.2 hi0_n_4688.2))
          refine va_iald hx hb hK hP 3 2 rfl rfl (ti_in vx_4696 (om_fc2812d4 hk0.1 hi0_n_4688.1) (om_b69853f0 hk0.2 s_nodes.2 mn_p0.2 hi0_n_4688.2)) dX7_bestOf_76 ?_
          refine lv_topi (fun x_4697 ex_4697 => ?_)
          have hG := hG.trans (lt_eq ex_4697)
          have kx_4697 : (fM_st x_4696.toNatClampNeg).toInt = x_4697.toInt := by rw [ex_4697]
          have cx_4697 : (fM_st (4 * p0.toNatClampNeg + z_4687.toNatClampNeg)).toInt = x_4697.toInt := by rw [show 4 * p0.toNatClampNeg + z_4687.toNatClampNeg = x_4696.toNatClampNeg from (om_4de36627 (ti_cl (x := p0) rfl hk0.1) (ti_cl (x := z_4687) rfl hi0_n_4688.1) (ti_cl (x := x_4696) vx_4696 (om_fc2812d4 hk0.1 hi0_n_4688.1)))]; exact kx_4697
          have wx_4697 : 0 ≤ x_4697.toInt ∧ x_4697.toInt < p0.toInt := row_lt r_st (i := z_4687.toNatClampNeg) (ti_cl (x := p0) rfl hk0.1) (ti_cl (x := z_4687) rfl hi0_n_4688.1) hk0.2 hi0_n_4688.2 (om_24300f0a (ti_cl (x := p0) rfl hk0.1) (ti_cl (x := z_4687) rfl hi0_n_4688.1)) cx_4697
          exact wq_i hx hb hr 0 ⟨⟨trivial, (by first | omega | assumption)⟩, hG⟩ (fun t ht hW => Bw.to hP hD hK ht hW) hS dX7_bestOf_77 hlocks
        · skip
          have hG := hG.trans (if_neg c_4694)
          have gc_4694 := ti_ne c_4694 rfl rfl
          obtain ⟨x_4698, ex_4698⟩ : ∃ z : Int32, z = z_4687 + Int32.ofInt 1 := ⟨_, rfl⟩
          have hG := hG.trans (lt_eq ex_4698)
          have vx_4698 : x_4698.toInt = z_4687.toInt + 1 := ti_add (y := 1) ex_4698 rfl kc_1 (om_4e4fce7e hi0_n_4688.1) (om_0ca29412 mn_p0.2 hi0_n_4688.2)
          refine lv_iinc (v := x_4698) (lv' := [(2, .int x_4698), (0, .ref oM), (1, .int p0)]) hx hb dX7_bestOf_61 hl (k := 0) rfl ex_4698.symm (by decide) rfl (fun ls hl => ?_)
          refine lv_goto (tgt := 31) hx hb dX7_bestOf_64 (by decide) ?_
          have ex9 : BestJ fM_r fM_told fM_st iM_scale p0.toNatClampNeg x_4698.toInt := best_go (n := z_4687.toNatClampNeg) hi1_n_4688 (by have q1 := ti_cl (x := z_4687) rfl hi0_n_4688.1; omega) (by have q := cx_4691; rw [show 4 * p0.toNatClampNeg + z_4687.toNatClampNeg = 4 * p0.toNatClampNeg + z_4687.toNatClampNeg from by omega]; exact q) lx_4692 lx_4693 (by omega) (by omega)
          exact ih_n_4688 x_4698 _ _ _  (by have q9 := best_lt ex9; omega) ex9 (ms_lt hm_n_4688 (om_dd4ae0bc vx_4698) (om_d5382009 hi0_n_4688.2)) hG hP hD hS (lv_sub hl [0, 1, 2] rfl)
    have be9 := best_ex (ft := fM_told) (sc := iM_scale) r_R r_st r_wst (by omega) (k := p0.toNatClampNeg) (by omega) (by omega)
    have mm9 : 1 ≤ (fM_r (27 + p0.toNatClampNeg)).toInt := in_p0 (by omega)
    have bf9 : BestJ fM_r fM_told fM_st iM_scale p0.toNatClampNeg (0 : Int32).toInt := best_start (by have q := kc_0; omega) be9
    clear be9
    exact key_n_4688 ((((fM_r (27 + p0.toNatClampNeg)).toInt - (0 : Int32).toInt).toNat) + 1) 0 _ _ _  ⟨(om_b1de7dbe kc_0), (om_ca2cca41 mm9 kc_0)⟩ (by first | assumption | omega | decide) (Nat.lt_add_one _) hG hP hD hS hl
  · skip
    have hG := hG.trans (if_neg c_4686)
    have gc_4686 := ti_ne c_4686 rfl kc_1
    refine lv_aload_n hx hb dX7_bestOf_13 rfl (lv_at hl 0 rfl) ?_
    refine va_get (D := (dC, dI)) (ci := 7) (v := .ref rM_r) (C := RX7) (T := TX7) (N := 48) hx hb hts inX7 hown hK hP 0 rfl rfl 15 (by decide) (hts _ wd_155) (fun _ h9 => h9) rfl dX7_bestOf_14 ?_
    refine lv_bipush (v := 9) hx hb dX7_bestOf_17 (by decide) ?_
    refine lv_iload_n hx hb dX7_bestOf_19 rfl (lv_at hl 1 rfl) ?_
    refine lv_iadd hx hb dX7_bestOf_20 ?_
    refine lv_topi (fun x_4699 ex_4699 => ?_)
    have hG := hG.trans (lt_eq ex_4699)
    have vx_4699 : x_4699.toInt = p0.toInt + 9 := om_296ce4dd (ti_add ex_4699 kc_9 rfl (om_090bbef4 hk0.1) (om_79f05b99 hk0.2 s_nodes.2))
    refine va_iald hx hb hK hP 1 0 rfl rfl (ti_in vx_4699 (om_edbe2e4c hk0.1) (om_c4df49a1 hk0.2 s_nodes.2)) dX7_bestOf_21 ?_
    refine lv_topi (fun x_4700 ex_4700 => ?_)
    have hG := hG.trans (lt_eq ex_4700)
    have kx_4700 : (fM_r x_4699.toNatClampNeg).toInt = x_4700.toInt := by rw [ex_4700]
    have cx_4700 : (fM_r (9 + p0.toNatClampNeg)).toInt = x_4700.toInt := by rw [show 9 + p0.toNatClampNeg = x_4699.toNatClampNeg from (om_32f1c3e7 (ti_cl (x := p0) rfl hk0.1) (ti_cl (x := x_4699) vx_4699 (om_edbe2e4c hk0.1)))]; exact kx_4700
    have sx_4700 := r_R.kind x_4699.toNatClampNeg (om_462cc4af (ti_cl (x := x_4699) vx_4699 (om_edbe2e4c hk0.1)) hk0.1) (om_7afb9f20 (ti_cl (x := x_4699) vx_4699 (om_edbe2e4c hk0.1)) hk0.2 s_nodes.2)
    refine lv_iconst (v := 2) hx hb dX7_bestOf_22 (by decide) ?_
    refine lv_icmp_eq (tgt := 29) hx hb dX7_bestOf_23 (by decide) (fun c_4701 => ?_) (fun c_4701 => ?_)
    · skip
      have hG := hG.trans (if_pos c_4701)
      have gc_4701 := ti_eq c_4701 rfl kc_2
      refine lv_iconst (v := 0) hx hb dX7_bestOf_29 (by decide) ?_
      refine lv_istore_n (lv' := [(2, .int 0), (0, .ref oM), (1, .int p0)]) hx hb dX7_bestOf_30 rfl hl (by decide) rfl (fun ls hl => ?_)
      have hl := lv_sub hl (l' := [(2, .int 0), (0, .ref oM), (1, .int p0)]) [0, 1, 2] rfl
      have key_n_4703 : ∀ (n_4703 : Nat) (z_4702 : Int32) (H : Heap) (locs : List Loc) (ls : Array Slot), (0 ≤ z_4702.toInt ∧ z_4702.toInt < (fM_r (27 + p0.toNatClampNeg)).toInt) → (BestJ fM_r fM_told fM_st iM_scale p0.toNatClampNeg z_4702.toInt) → ((fM_r (27 + p0.toNatClampNeg)).toInt - z_4702.toInt).toNat < n_4703 → (PX7_bestOf fM_r fM_told fM_st iM_scale iM_night p0 = HX7_bestOf_0 fM_r fM_told fM_st iM_scale iM_night p0 n_4703 z_4702) → va_P (dC, dI) vwCl [(oc7 oM iM_thrown rM_tape iM_taped iM_size iM_at iM_end iM_token iM_whole iM_nameSize iM_fault iM_place iM_trouble rM_letters iM_failed iM_hasCourt rM_r rM_fresh rM_told rM_read rM_st rM_undone rM_kept iM_undos iM_images rM_fresher iM_fresherSize iM_scale iM_night rM_heardRow rM_cutRow iM_breaths iM_cutMany iM_allBreaths rM_trial rM_words iM_fewestBreaths iM_orderMany iM_orderSum iM_leastOrder rM_often iM_setMany iM_someOf iM_allOf iM_allWeight iM_enoughWeight iM_worthSum iM_firstRest iM_leastDrawn), (arI rM_r kM_r 287 fM_r), (arI rM_told kM_told 90 fM_told), (arI rM_st kM_st 90 fM_st)] H → va_D A [(oc7 oM iM_thrown rM_tape iM_taped iM_size iM_at iM_end iM_token iM_whole iM_nameSize iM_fault iM_place iM_trouble rM_letters iM_failed iM_hasCourt rM_r rM_fresh rM_told rM_read rM_st rM_undone rM_kept iM_undos iM_images rM_fresher iM_fresherSize iM_scale iM_night rM_heardRow rM_cutRow iM_breaths iM_cutMany iM_allBreaths rM_trial rM_words iM_fewestBreaths iM_orderMany iM_orderSum iM_leastOrder rM_often iM_setMany iM_someOf iM_allOf iM_allWeight iM_enoughWeight iM_worthSum iM_firstRest iM_leastDrawn), (arI rM_r kM_r 287 fM_r), (arI rM_told kM_told 90 fM_told), (arI rM_st kM_st 90 fM_st)] → va_S A s.heap H locs → lv_has ls 3 [(2, .int z_4702), (0, .ref oM), (1, .int p0)] → W p l e (headSpec (Cond.code yX7_bestOf cX7_bestOf 3 (some .int) :: wG) ({ frames := 21, cells := 0, slots := 0, locals := 564 })).room s m ([.ref oM, .int p0] : List Value).toArray below meth c H locs 0 0 (MQ below (va_Qi (fun (r : Int32) (_ : Nat) => (True ∧ (-2 ≤ r.toInt ∧ r.toInt < p0.toInt ∧ r.toInt ≤ 17)) ∧ PX7_bestOf fM_r fM_told fM_st iM_scale iM_night p0 = r) (fun (_ : Nat) (t : State) => Bw dC dI A [(oc7 oM iM_thrown rM_tape iM_taped iM_size iM_at iM_end iM_token iM_whole iM_nameSize iM_fault iM_place iM_trouble rM_letters iM_failed iM_hasCourt rM_r rM_fresh rM_told rM_read rM_st rM_undone rM_kept iM_undos iM_images rM_fresher iM_fresherSize iM_scale iM_night rM_heardRow rM_cutRow iM_breaths iM_cutMany iM_allBreaths rM_trial rM_words iM_fewestBreaths iM_orderMany iM_orderSum iM_leastOrder rM_often iM_setMany iM_someOf iM_allOf iM_allWeight iM_enoughWeight iM_worthSum iM_firstRest iM_leastDrawn), (arI rM_r kM_r 287 fM_r), (arI rM_told kM_told 90 fM_told), (arI rM_st kM_st 90 fM_st)] [(kM_r, .int), (kM_told, .int), (kM_st, .int)] t) A) ([.ref oM, .int p0] : List Value).toArray s 0 0 A) (F0 m 31 ls []) := by
        intro n_4703
        induction n_4703 with
        | zero => intro z_4702 H locs ls hi0_n_4703 hi1_n_4703 hm; exact absurd hm (Nat.not_lt_zero _)
        | succ n_4703 ih_n_4703 =>
          intro z_4702 H locs ls hi0_n_4703 hi1_n_4703 hm_n_4703 hG hP hD hS hl
          have hG := hG.trans (HX7_bestOf_0_eq _ _ _ _ _ _ _ _)
          refine lv_aload_n hx hb dX7_bestOf_31 rfl (lv_at hl 1 rfl) ?_
          refine lv_aload_n hx hb dX7_bestOf_32 rfl (lv_at hl 1 rfl) ?_
          refine va_get (D := (dC, dI)) (ci := 7) (v := .ref rM_st) (C := RX7) (T := TX7) (N := 48) hx hb hts inX7 hown hK hP 0 rfl rfl 19 (by decide) (hts _ wd_159) (fun _ h9 => h9) rfl dX7_bestOf_33 ?_
          refine lv_aload_n hx hb dX7_bestOf_36 rfl (lv_at hl 1 rfl) ?_
          refine va_get (D := (dC, dI)) (ci := 7) (v := .ref rM_st) (C := RX7) (T := TX7) (N := 48) hx hb hts inX7 hown hK hP 0 rfl rfl 19 (by decide) (hts _ wd_159) (fun _ h9 => h9) rfl dX7_bestOf_37 ?_
          refine lv_iconst (v := 4) hx hb dX7_bestOf_40 (by decide) ?_
          refine lv_iload_n hx hb dX7_bestOf_41 rfl (lv_at hl 2 rfl) ?_
          refine lv_imul hx hb dX7_bestOf_42 ?_
          refine lv_topi (fun x_4704 ex_4704 => ?_)
          have hG := hG.trans (lt_eq ex_4704)
          have vx_4704 : x_4704.toInt = 4 * p0.toInt := ti_mul ex_4704 kc_4 rfl (om_56b74365 hk0.1) (om_eac0354e hk0.2 s_nodes.2)
          refine lv_iload_n hx hb dX7_bestOf_43 rfl (lv_at hl 0 rfl) ?_
          refine lv_iadd hx hb dX7_bestOf_44 ?_
          refine lv_topi (fun x_4705 ex_4705 => ?_)
          have hG := hG.trans (lt_eq ex_4705)
          have vx_4705 : x_4705.toInt = 4 * p0.toInt + z_4702.toInt := om_5d0caf0f (ti_add ex_4705 vx_4704 rfl (om_056a216f hk0.1 hi0_n_4703.1) (om_e3219df6 hk0.2 s_nodes.2 mn_p0.2 hi0_n_4703.2))
          refine va_iald hx hb hK hP 3 2 rfl rfl (ti_in vx_4705 (om_fc2812d4 hk0.1 hi0_n_4703.1) (om_b69853f0 hk0.2 s_nodes.2 mn_p0.2 hi0_n_4703.2)) dX7_bestOf_45 ?_
          refine lv_topi (fun x_4706 ex_4706 => ?_)
          have hG := hG.trans (lt_eq ex_4706)
          have kx_4706 : (fM_st x_4705.toNatClampNeg).toInt = x_4706.toInt := by rw [ex_4706]
          have cx_4706 : (fM_st (4 * p0.toNatClampNeg + z_4702.toNatClampNeg)).toInt = x_4706.toInt := by rw [show 4 * p0.toNatClampNeg + z_4702.toNatClampNeg = x_4705.toNatClampNeg from (om_4de36627 (ti_cl (x := p0) rfl hk0.1) (ti_cl (x := z_4702) rfl hi0_n_4703.1) (ti_cl (x := x_4705) vx_4705 (om_fc2812d4 hk0.1 hi0_n_4703.1)))]; exact kx_4706
          have wx_4706 : 0 ≤ x_4706.toInt ∧ x_4706.toInt < p0.toInt := row_lt r_st (i := z_4702.toNatClampNeg) (ti_cl (x := p0) rfl hk0.1) (ti_cl (x := z_4702) rfl hi0_n_4703.1) hk0.2 hi0_n_4703.2 (om_24300f0a (ti_cl (x := p0) rfl hk0.1) (ti_cl (x := z_4702) rfl hi0_n_4703.1)) cx_4706
          have hFc := va_freeI hD hS hA
          refine va_calli (va_runV (As := [.ref rM_st, .int x_4706]) (rest := []) ⟨hx, hb, hml, hown, hts⟩ (tX7_worthOf_x l dC dI _ oM iM_thrown rM_tape iM_taped iM_size iM_at iM_end iM_token iM_whole iM_nameSize iM_fault iM_place iM_trouble rM_letters iM_failed iM_hasCourt rM_r fM_r kM_r rM_fresh rM_told fM_told kM_told rM_read rM_st rM_undone rM_kept iM_undos iM_images rM_fresher iM_fresherSize iM_scale iM_night rM_heardRow rM_cutRow iM_breaths iM_cutMany iM_allBreaths rM_trial rM_words iM_fewestBreaths iM_orderMany iM_orderSum iM_leastOrder rM_often iM_setMany iM_someOf iM_allOf iM_allWeight iM_enoughWeight iM_worthSum iM_firstRest iM_leastDrawn rM_st fM_st kM_st x_4706 b_iM_taped b_iM_size b_iM_end b_iM_failed b_iM_hasCourt b_iM_undos b_iM_images b_iM_scale b_iM_breaths b_iM_cutMany (by assumption) (by assumption) (by assumption) (by assumption) ⟨wx_4706.1, (om_90a71968 hk0.2 wx_4706.2)⟩ hnt) (cwV 2 hts (wd_V wd_645 wd_646 wd_647 wd_5 (wd_c wd_648)) rfl rfl rfl dv_yX7_worthOf_2 ⟨Nat.le_of_ble_eq_true rfl, Nat.le_of_ble_eq_true rfl⟩) ⟨Pw.fb, recvX7 hK hP (q0 := 0) rfl, fun U hU hW => Pw.to hP hD hK hE hS hFc hU hW⟩ rfl rfl hl.1 rfl (lv_room (Nat.le_of_ble_eq_true rfl)) dX7_bestOf_46 ⟨Nat.le_of_ble_eq_true rfl, Nat.le_of_ble_eq_true rfl⟩) hS (fun q _ h => hFc q h) hFc (fun r u t H locs ht hvm hw hB hz1 hk1 hS => ?_)
          have hru9 := hw.2
          have hw := hw.1
          obtain ⟨hP, hD⟩ := Bw.goA (ws' := [(oc7 oM iM_thrown rM_tape iM_taped iM_size iM_at iM_end iM_token iM_whole iM_nameSize iM_fault iM_place iM_trouble rM_letters iM_failed iM_hasCourt rM_r rM_fresh rM_told rM_read rM_st rM_undone rM_kept iM_undos iM_images rM_fresher iM_fresherSize iM_scale iM_night rM_heardRow rM_cutRow iM_breaths iM_cutMany iM_allBreaths rM_trial rM_words iM_fewestBreaths iM_orderMany iM_orderSum iM_leastOrder rM_often iM_setMany iM_someOf iM_allOf iM_allWeight iM_enoughWeight iM_worthSum iM_firstRest iM_leastDrawn), (arI rM_r kM_r 287 fM_r), (arI rM_told kM_told 90 fM_told), (arI rM_st kM_st 90 fM_st)]) hB rfl ht hFc rfl
          clear hz1 hk1 hvm ht hB
          obtain ⟨x_4707, rfl⟩ : ∃ z, z = r := ⟨_, rfl⟩
          have hG := hG.trans (lt_eq hru9.symm)
          have lx_4707 := hw.2
          refine lv_aload_n hx hb dX7_bestOf_49 rfl (lv_at hl 1 rfl) ?_
          refine lv_aload_n hx hb dX7_bestOf_50 rfl (lv_at hl 1 rfl) ?_
          refine va_get (D := (dC, dI)) (ci := 7) (v := .ref rM_st) (C := RX7) (T := TX7) (N := 48) hx hb hts inX7 hown hK hP 0 rfl rfl 19 (by decide) (hts _ wd_159) (fun _ h9 => h9) rfl dX7_bestOf_51 ?_
          refine lv_iload_n hx hb dX7_bestOf_54 rfl (lv_at hl 2 rfl) ?_
          have hFc := va_freeI hD hS hA
          refine va_calli (va_runV (As := [.ref rM_st, .int p0]) (rest := [.int x_4707]) ⟨hx, hb, hml, hown, hts⟩ (tX7_worthOf_x l dC dI _ oM iM_thrown rM_tape iM_taped iM_size iM_at iM_end iM_token iM_whole iM_nameSize iM_fault iM_place iM_trouble rM_letters iM_failed iM_hasCourt rM_r fM_r kM_r rM_fresh rM_told fM_told kM_told rM_read rM_st rM_undone rM_kept iM_undos iM_images rM_fresher iM_fresherSize iM_scale iM_night rM_heardRow rM_cutRow iM_breaths iM_cutMany iM_allBreaths rM_trial rM_words iM_fewestBreaths iM_orderMany iM_orderSum iM_leastOrder rM_often iM_setMany iM_someOf iM_allOf iM_allWeight iM_enoughWeight iM_worthSum iM_firstRest iM_leastDrawn rM_st fM_st kM_st p0 b_iM_taped b_iM_size b_iM_end b_iM_failed b_iM_hasCourt b_iM_undos b_iM_images b_iM_scale b_iM_breaths b_iM_cutMany (by assumption) (by assumption) (by assumption) (by assumption) ⟨hk0.1, hk0.2⟩ hnt) (cwV 2 hts (wd_V wd_645 wd_646 wd_647 wd_5 (wd_c wd_648)) rfl rfl rfl dv_yX7_worthOf_2 ⟨Nat.le_of_ble_eq_true rfl, Nat.le_of_ble_eq_true rfl⟩) ⟨Pw.fb, recvX7 hK hP (q0 := 0) rfl, fun U hU hW => Pw.to hP hD hK hE hS hFc hU hW⟩ rfl rfl hl.1 rfl (lv_room (Nat.le_of_ble_eq_true rfl)) dX7_bestOf_55 ⟨Nat.le_of_ble_eq_true rfl, Nat.le_of_ble_eq_true rfl⟩) hS (fun q _ h => hFc q h) hFc (fun r u t H locs ht hvm hw hB hz1 hk1 hS => ?_)
          have hru9 := hw.2
          have hw := hw.1
          obtain ⟨hP, hD⟩ := Bw.goA (ws' := [(oc7 oM iM_thrown rM_tape iM_taped iM_size iM_at iM_end iM_token iM_whole iM_nameSize iM_fault iM_place iM_trouble rM_letters iM_failed iM_hasCourt rM_r rM_fresh rM_told rM_read rM_st rM_undone rM_kept iM_undos iM_images rM_fresher iM_fresherSize iM_scale iM_night rM_heardRow rM_cutRow iM_breaths iM_cutMany iM_allBreaths rM_trial rM_words iM_fewestBreaths iM_orderMany iM_orderSum iM_leastOrder rM_often iM_setMany iM_someOf iM_allOf iM_allWeight iM_enoughWeight iM_worthSum iM_firstRest iM_leastDrawn), (arI rM_r kM_r 287 fM_r), (arI rM_told kM_told 90 fM_told), (arI rM_st kM_st 90 fM_st)]) hB rfl ht hFc rfl
          clear hz1 hk1 hvm ht hB
          obtain ⟨x_4708, rfl⟩ : ∃ z, z = r := ⟨_, rfl⟩
          have hG := hG.trans (lt_eq hru9.symm)
          have lx_4708 := hw.2
          refine lv_icmp_eq (tgt := 67) hx hb dX7_bestOf_58 (by decide) (fun c_4709 => ?_) (fun c_4709 => ?_)
          · skip
            have hG := hG.trans (if_pos c_4709)
            have gc_4709 := ti_eq c_4709 rfl rfl
            refine lv_aload_n hx hb dX7_bestOf_67 rfl (lv_at hl 1 rfl) ?_
            refine va_get (D := (dC, dI)) (ci := 7) (v := .ref rM_st) (C := RX7) (T := TX7) (N := 48) hx hb hts inX7 hown hK hP 0 rfl rfl 19 (by decide) (hts _ wd_159) (fun _ h9 => h9) rfl dX7_bestOf_68 ?_
            refine lv_iconst (v := 4) hx hb dX7_bestOf_71 (by decide) ?_
            refine lv_iload_n hx hb dX7_bestOf_72 rfl (lv_at hl 2 rfl) ?_
            refine lv_imul hx hb dX7_bestOf_73 ?_
            refine lv_topi (fun x_4710 ex_4710 => ?_)
            have hG := hG.trans (lt_eq ex_4710)
            have vx_4710 : x_4710.toInt = 4 * p0.toInt := ti_mul ex_4710 kc_4 rfl (om_56b74365 hk0.1) (om_eac0354e hk0.2 s_nodes.2)
            refine lv_iload_n hx hb dX7_bestOf_74 rfl (lv_at hl 0 rfl) ?_
            refine lv_iadd hx hb dX7_bestOf_75 ?_
            refine lv_topi (fun x_4711 ex_4711 => ?_)
            have hG := hG.trans (lt_eq ex_4711)
            have vx_4711 : x_4711.toInt = 4 * p0.toInt + z_4702.toInt := om_5d0caf0f (ti_add ex_4711 vx_4710 rfl (om_056a216f hk0.1 hi0_n_4703.1) (om_e3219df6 hk0.2 s_nodes.2 mn_p0.2 hi0_n_4703.2))
            refine va_iald hx hb hK hP 3 2 rfl rfl (ti_in vx_4711 (om_fc2812d4 hk0.1 hi0_n_4703.1) (om_b69853f0 hk0.2 s_nodes.2 mn_p0.2 hi0_n_4703.2)) dX7_bestOf_76 ?_
            refine lv_topi (fun x_4712 ex_4712 => ?_)
            have hG := hG.trans (lt_eq ex_4712)
            have kx_4712 : (fM_st x_4711.toNatClampNeg).toInt = x_4712.toInt := by rw [ex_4712]
            have cx_4712 : (fM_st (4 * p0.toNatClampNeg + z_4702.toNatClampNeg)).toInt = x_4712.toInt := by rw [show 4 * p0.toNatClampNeg + z_4702.toNatClampNeg = x_4711.toNatClampNeg from (om_4de36627 (ti_cl (x := p0) rfl hk0.1) (ti_cl (x := z_4702) rfl hi0_n_4703.1) (ti_cl (x := x_4711) vx_4711 (om_fc2812d4 hk0.1 hi0_n_4703.1)))]; exact kx_4712
            have wx_4712 : 0 ≤ x_4712.toInt ∧ x_4712.toInt < p0.toInt := row_lt r_st (i := z_4702.toNatClampNeg) (ti_cl (x := p0) rfl hk0.1) (ti_cl (x := z_4702) rfl hi0_n_4703.1) hk0.2 hi0_n_4703.2 (om_24300f0a (ti_cl (x := p0) rfl hk0.1) (ti_cl (x := z_4702) rfl hi0_n_4703.1)) cx_4712
            exact wq_i hx hb hr 0 ⟨⟨trivial, (by first | omega | assumption)⟩, hG⟩ (fun t ht hW => Bw.to hP hD hK ht hW) hS dX7_bestOf_77 hlocks
          · skip
            have hG := hG.trans (if_neg c_4709)
            have gc_4709 := ti_ne c_4709 rfl rfl
            obtain ⟨x_4713, ex_4713⟩ : ∃ z : Int32, z = z_4702 + Int32.ofInt 1 := ⟨_, rfl⟩
            have hG := hG.trans (lt_eq ex_4713)
            have vx_4713 : x_4713.toInt = z_4702.toInt + 1 := ti_add (y := 1) ex_4713 rfl kc_1 (om_4e4fce7e hi0_n_4703.1) (om_0ca29412 mn_p0.2 hi0_n_4703.2)
            refine lv_iinc (v := x_4713) (lv' := [(2, .int x_4713), (0, .ref oM), (1, .int p0)]) hx hb dX7_bestOf_61 hl (k := 0) rfl ex_4713.symm (by decide) rfl (fun ls hl => ?_)
            refine lv_goto (tgt := 31) hx hb dX7_bestOf_64 (by decide) ?_
            have ex9 : BestJ fM_r fM_told fM_st iM_scale p0.toNatClampNeg x_4713.toInt := best_go (n := z_4702.toNatClampNeg) hi1_n_4703 (by have q1 := ti_cl (x := z_4702) rfl hi0_n_4703.1; omega) (by have q := cx_4706; rw [show 4 * p0.toNatClampNeg + z_4702.toNatClampNeg = 4 * p0.toNatClampNeg + z_4702.toNatClampNeg from by omega]; exact q) lx_4707 lx_4708 (by omega) (by omega)
            exact ih_n_4703 x_4713 _ _ _  (by have q9 := best_lt ex9; omega) ex9 (ms_lt hm_n_4703 (om_dd4ae0bc vx_4713) (om_d5382009 hi0_n_4703.2)) hG hP hD hS (lv_sub hl [0, 1, 2] rfl)
      have be9 := best_ex (ft := fM_told) (sc := iM_scale) r_R r_st r_wst (by omega) (k := p0.toNatClampNeg) (by omega) (by omega)
      have mm9 : 1 ≤ (fM_r (27 + p0.toNatClampNeg)).toInt := in_p0 (by omega)
      have bf9 : BestJ fM_r fM_told fM_st iM_scale p0.toNatClampNeg (0 : Int32).toInt := best_start (by have q := kc_0; omega) be9
      clear be9
      exact key_n_4703 ((((fM_r (27 + p0.toNatClampNeg)).toInt - (0 : Int32).toInt).toNat) + 1) 0 _ _ _  ⟨(om_b1de7dbe kc_0), (om_ca2cca41 mm9 kc_0)⟩ (by first | assumption | omega | decide) (Nat.lt_add_one _) hG hP hD hS hl
    · skip
      have hG := hG.trans (if_neg c_4701)
      have gc_4701 := ti_ne c_4701 rfl kc_2
      refine lv_bipush (v := (-2)) hx hb dX7_bestOf_26 (by decide) ?_
      exact wq_i hx hb hr 0 ⟨⟨trivial, (by have q := kc_m2; first | omega | assumption)⟩, hG⟩ (fun t ht hW => Bw.to hP hD hK ht hW) hS dX7_bestOf_28 hlocks
