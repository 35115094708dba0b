set_option maxHeartbeats 4000000 in
set_option maxRecDepth 100000 in
theorem tX7_weightsOf_x (l : Launch) (dC : Nat → ClassId) (dI : Nat → Nat → Nat) (sz : Nat) (oM : Nat) (iM_thrown : Int32) (rM_tape : Nat) (iM_taped : Int32) (iM_size : Int32) (iM_at : Int32) (iM_end : Int32) (iM_token : Int32) (iM_whole : Int32) (iM_nameSize : Int32) (iM_fault : Int32) (iM_place : Int32) (iM_trouble : Int32) (rM_letters : Nat) (iM_failed : Int32) (iM_hasCourt : Int32) (rM_r : Nat) (fM_r : Nat → Int32) (kM_r : ClassId) (rM_fresh : Nat) (rM_told : Nat) (rM_read : Nat) (rM_st : Nat) (rM_undone : Nat) (rM_kept : Nat) (iM_undos : Int32) (iM_images : Int32) (rM_fresher : Nat) (iM_fresherSize : Int32) (iM_scale : Int32) (iM_night : Int32) (rM_heardRow : Nat) (rM_cutRow : Nat) (iM_breaths : Int32) (iM_cutMany : Int32) (iM_allBreaths : Int32) (rM_trial : Nat) (rM_words : Nat) (iM_fewestBreaths : Int32) (iM_orderMany : Int32) (iM_orderSum : Int32) (iM_leastOrder : Int32) (rM_often : Nat) (iM_setMany : Int32) (iM_someOf : Int32) (iM_allOf : Int32) (iM_allWeight : Int64) (iM_enoughWeight : Int64) (iM_worthSum : Int64) (iM_firstRest : Int32) (iM_leastDrawn : Int32) (p0 : Int32) (b_iM_taped : 0 ≤ iM_taped.toInt ∧ iM_taped.toInt ≤ 900) (b_iM_size : 0 ≤ iM_size.toInt ∧ iM_size.toInt ≤ 900) (b_iM_end : 0 ≤ iM_end.toInt ∧ iM_end.toInt ≤ 900) (b_iM_failed : 0 ≤ iM_failed.toInt ∧ iM_failed.toInt ≤ 1) (b_iM_hasCourt : 0 ≤ iM_hasCourt.toInt ∧ iM_hasCourt.toInt ≤ 1) (b_iM_undos : 0 ≤ iM_undos.toInt ∧ iM_undos.toInt ≤ 16) (b_iM_images : 0 ≤ iM_images.toInt ∧ iM_images.toInt ≤ 3) (b_iM_scale : 1 ≤ iM_scale.toInt ∧ iM_scale.toInt ≤ 1296) (b_iM_breaths : 0 ≤ iM_breaths.toInt ∧ iM_breaths.toInt ≤ 399) (b_iM_cutMany : 0 ≤ iM_cutMany.toInt ∧ iM_cutMany.toInt ≤ 399) (r_R : ROk fM_r) (r_C : iM_hasCourt.toInt ≤ 0 ∨ (1 ≤ (fM_r 1).toInt ∧ 0 ≤ (fM_r 6).toInt ∧ (fM_r 6).toInt < (fM_r 1).toInt)) (hk0 : 0 ≤ p0.toInt ∧ p0.toInt < (fM_r 1).toInt) (hk3 : (fM_r (9 + p0.toNatClampNeg)).toInt = 3) : Met l yX7_weightsOf (Cond.code yX7_weightsOf cX7_weightsOf 4 (some .int) :: wG) ({ frames := 0, cells := 0, slots := 0, locals := 0 }) (va_Pc [.ref oM, .int p0] (Pw dC dI sz [(oc7 oM iM_thrown rM_tape iM_taped iM_size iM_at iM_end iM_token iM_whole iM_nameSize iM_fault iM_place iM_trouble rM_letters iM_failed iM_hasCourt rM_r rM_fresh rM_told rM_read rM_st rM_undone rM_kept iM_undos iM_images rM_fresher iM_fresherSize iM_scale iM_night rM_heardRow rM_cutRow iM_breaths iM_cutMany iM_allBreaths rM_trial rM_words iM_fewestBreaths iM_orderMany iM_orderSum iM_leastOrder rM_often iM_setMany iM_someOf iM_allOf iM_allWeight iM_enoughWeight iM_worthSum iM_firstRest iM_leastDrawn), (arI rM_r kM_r 287 fM_r)] [(kM_r, .int)])) (va_Qi (fun (r : Int32) (_ : Nat) => (True ∧ ((1 ≤ r.toInt ∧ r.toInt ≤ 36) ∧ r = sum32 (fun i => fM_r (45 + 4 * p0.toNatClampNeg + i)) (fM_r (27 + p0.toNatClampNeg)).toInt.toNat)) ∧ PX7_weightsOf fM_r p0 = r) (fun (_ : Nat) (t : State) => Bw dC dI (va_A [(oc7 oM iM_thrown rM_tape iM_taped iM_size iM_at iM_end iM_token iM_whole iM_nameSize iM_fault iM_place iM_trouble rM_letters iM_failed iM_hasCourt rM_r rM_fresh rM_told rM_read rM_st rM_undone rM_kept iM_undos iM_images rM_fresher iM_fresherSize iM_scale iM_night rM_heardRow rM_cutRow iM_breaths iM_cutMany iM_allBreaths rM_trial rM_words iM_fewestBreaths iM_orderMany iM_orderSum iM_leastOrder rM_often iM_setMany iM_someOf iM_allOf iM_allWeight iM_enoughWeight iM_worthSum iM_firstRest iM_leastDrawn), (arI rM_r kM_r 287 fM_r)] sz) [(oc7 oM iM_thrown rM_tape iM_taped iM_size iM_at iM_end iM_token iM_whole iM_nameSize iM_fault iM_place iM_trouble rM_letters iM_failed iM_hasCourt rM_r rM_fresh rM_told rM_read rM_st rM_undone rM_kept iM_undos iM_images rM_fresher iM_fresherSize iM_scale iM_night rM_heardRow rM_cutRow iM_breaths iM_cutMany iM_allBreaths rM_trial rM_words iM_fewestBreaths iM_orderMany iM_orderSum iM_leastOrder rM_often iM_setMany iM_someOf iM_allOf iM_allWeight iM_enoughWeight iM_worthSum iM_firstRest iM_leastDrawn), (arI rM_r kM_r 287 fM_r)] [(kM_r, .int)] t) (va_A [(oc7 oM iM_thrown rM_tape iM_taped iM_size iM_at iM_end iM_token iM_whole iM_nameSize iM_fault iM_place iM_trouble rM_letters iM_failed iM_hasCourt rM_r rM_fresh rM_told rM_read rM_st rM_undone rM_kept iM_undos iM_images rM_fresher iM_fresherSize iM_scale iM_night rM_heardRow rM_cutRow iM_breaths iM_cutMany iM_allBreaths rM_trial rM_words iM_fewestBreaths iM_orderMany iM_orderSum iM_leastOrder rM_often iM_setMany iM_someOf iM_allOf iM_allWeight iM_enoughWeight iM_worthSum iM_firstRest iM_leastDrawn), (arI rM_r kM_r 287 fM_r)] sz)) 0 0 (va_A [(oc7 oM iM_thrown rM_tape iM_taped iM_size iM_at iM_end iM_token iM_whole iM_nameSize iM_fault iM_place iM_trouble rM_letters iM_failed iM_hasCourt rM_r rM_fresh rM_told rM_read rM_st rM_undone rM_kept iM_undos iM_images rM_fresher iM_fresherSize iM_scale iM_night rM_heardRow rM_cutRow iM_breaths iM_cutMany iM_allBreaths rM_trial rM_words iM_fewestBreaths iM_orderMany iM_orderSum iM_leastOrder rM_often iM_setMany iM_someOf iM_allOf iM_allWeight iM_enoughWeight iM_worthSum iM_firstRest iM_leastDrawn), (arI rM_r kM_r 287 fM_r)] sz) := by
  refine Met.ofW (cc := cX7_weightsOf) (maxL := 4) (ret := (some .int)) pnX7 rfl ?_
  intro p e s m args below meth c s₁ B hml hv
  obtain ⟨rfl, hsz, hP, hK, hD0, hE⟩ := hv
  have hx := B.exec
  have hb := B.bytes
  have hr := B.returns
  have hts : ∀ w ∈ wG, w.before ([.ref oM, .int p0] : List Value).toArray s = true := fun w h => atoms_spec (ws := Cond.code yX7_weightsOf cX7_weightsOf 4 (some .int) :: wG) B.pre w (List.mem_cons_of_mem _ h)
  have hown : s.vm.findClass RX7 = some m.cls := own_of B.named rfl
  have hlocks := B.notSynchronized
  subst hsz
  have hD := hD0.self (sz := s.heap.size)
  generalize hAe : va_A [(oc7 oM iM_thrown rM_tape iM_taped iM_size iM_at iM_end iM_token iM_whole iM_nameSize iM_fault iM_place iM_trouble rM_letters iM_failed iM_hasCourt rM_r rM_fresh rM_told rM_read rM_st rM_undone rM_kept iM_undos iM_images rM_fresher iM_fresherSize iM_scale iM_night rM_heardRow rM_cutRow iM_breaths iM_cutMany iM_allBreaths rM_trial rM_words iM_fewestBreaths iM_orderMany iM_orderSum iM_leastOrder rM_often iM_setMany iM_someOf iM_allOf iM_allWeight iM_enoughWeight iM_worthSum iM_firstRest iM_leastDrawn), (arI rM_r kM_r 287 fM_r)] s.heap.size = A at hD hE ⊢
  have hA : ∀ q : Nat, s.heap.size ≤ q → A q := fun q h => by rw [← hAe]; exact Or.inr h
  have hS : va_S A s.heap s.heap [] := va_S.rf
  have hl := lv_entry ([.ref oM, .int p0]) (n := 4) (Nat.le_of_ble_eq_true rfl)
  rw [lg_entry_eq]
  generalize (lg_sl ([.ref oM, .int p0]) ++ List.replicate (4 - (lg_sl ([.ref oM, .int p0])).length) Slot.unset).toArray = ls at hl ⊢
  have hl : lv_has ls 4 [(0, .ref oM), (1, .int p0)] := hl
  have hG := PX7_weightsOf_eq fM_r p0
  have s_slips := r_R.slips
  have s_nodes := r_R.nodes
  have s_uns := r_R.uns
  have q_p0 := ti_cl (x := p0) rfl hk0.1
  have mn_p0 := r_R.many (27 + p0.toNatClampNeg) (Nat.le_add_right _ _) (om_6c263690 (ti_cl (x := p0) rfl hk0.1) hk0.2 s_nodes.2)
  have kn_p0 := r_R.kind (9 + p0.toNatClampNeg) (Nat.le_add_right _ _) (om_57ce868b (ti_cl (x := p0) rfl hk0.1) hk0.2 s_nodes.2)
  have in_p0 := r_R.inner p0.toNatClampNeg (om_05d4ad0a (ti_cl (x := p0) rfl hk0.1) hk0.2)
  have ix_p0 : 1 ≤ (fM_r (27 + p0.toNatClampNeg)).toInt := in_p0 (by omega)
  refine lv_iconst (v := 0) hx hb dX7_weightsOf_0 (by decide) ?_
  refine lv_istore_n (lv' := [(2, .int 0), (0, .ref oM), (1, .int p0)]) hx hb dX7_weightsOf_1 rfl hl (by decide) rfl (fun ls hl => ?_)
  refine lv_iconst (v := 0) hx hb dX7_weightsOf_2 (by decide) ?_
  refine lv_istore_n (lv' := [(3, .int 0), (2, .int 0), (0, .ref oM), (1, .int p0)]) hx hb dX7_weightsOf_3 rfl hl (by decide) rfl (fun ls hl => ?_)
  have hl := lv_sub hl (l' := [(3, .int 0), (2, .int 0), (0, .ref oM), (1, .int p0)]) [0, 1, 2, 3] rfl
  have key_n_4555 : ∀ (n_4555 : Nat) (z_4553 : Int32) (z_4554 : Int32) (H : Heap) (locs : List Loc) (ls : Array Slot), (0 ≤ z_4553.toInt ∧ z_4553.toInt ≤ 4) → (z_4553.toInt ≤ z_4554.toInt ∧ z_4554.toInt ≤ 9 * z_4553.toInt) → (z_4553.toInt ≤ (fM_r (27 + p0.toNatClampNeg)).toInt) → (z_4554 = sum32 (fun i => fM_r (45 + 4 * p0.toNatClampNeg + i)) z_4553.toNatClampNeg) → (4 - z_4553.toInt).toNat < n_4555 → (PX7_weightsOf fM_r p0 = HX7_weightsOf_0 fM_r p0 n_4555 z_4553 z_4554) → va_P (dC, dI) vwCl [(oc7 oM iM_thrown rM_tape iM_taped iM_size iM_at iM_end iM_token iM_whole iM_nameSize iM_fault iM_place iM_trouble rM_letters iM_failed iM_hasCourt rM_r rM_fresh rM_told rM_read rM_st rM_undone rM_kept iM_undos iM_images rM_fresher iM_fresherSize iM_scale iM_night rM_heardRow rM_cutRow iM_breaths iM_cutMany iM_allBreaths rM_trial rM_words iM_fewestBreaths iM_orderMany iM_orderSum iM_leastOrder rM_often iM_setMany iM_someOf iM_allOf iM_allWeight iM_enoughWeight iM_worthSum iM_firstRest iM_leastDrawn), (arI rM_r kM_r 287 fM_r)] H → va_D A [(oc7 oM iM_thrown rM_tape iM_taped iM_size iM_at iM_end iM_token iM_whole iM_nameSize iM_fault iM_place iM_trouble rM_letters iM_failed iM_hasCourt rM_r rM_fresh rM_told rM_read rM_st rM_undone rM_kept iM_undos iM_images rM_fresher iM_fresherSize iM_scale iM_night rM_heardRow rM_cutRow iM_breaths iM_cutMany iM_allBreaths rM_trial rM_words iM_fewestBreaths iM_orderMany iM_orderSum iM_leastOrder rM_often iM_setMany iM_someOf iM_allOf iM_allWeight iM_enoughWeight iM_worthSum iM_firstRest iM_leastDrawn), (arI rM_r kM_r 287 fM_r)] → va_S A s.heap H locs → lv_has ls 4 [(3, .int z_4553), (2, .int z_4554), (0, .ref oM), (1, .int p0)] → W p l e (headSpec (Cond.code yX7_weightsOf cX7_weightsOf 4 (some .int) :: wG) ({ frames := 0, cells := 0, slots := 0, locals := 0 })).room s m ([.ref oM, .int p0] : List Value).toArray below meth c H locs 0 0 (MQ below (va_Qi (fun (r : Int32) (_ : Nat) => (True ∧ ((1 ≤ r.toInt ∧ r.toInt ≤ 36) ∧ r = sum32 (fun i => fM_r (45 + 4 * p0.toNatClampNeg + i)) (fM_r (27 + p0.toNatClampNeg)).toInt.toNat)) ∧ PX7_weightsOf fM_r p0 = r) (fun (_ : Nat) (t : State) => Bw dC dI A [(oc7 oM iM_thrown rM_tape iM_taped iM_size iM_at iM_end iM_token iM_whole iM_nameSize iM_fault iM_place iM_trouble rM_letters iM_failed iM_hasCourt rM_r rM_fresh rM_told rM_read rM_st rM_undone rM_kept iM_undos iM_images rM_fresher iM_fresherSize iM_scale iM_night rM_heardRow rM_cutRow iM_breaths iM_cutMany iM_allBreaths rM_trial rM_words iM_fewestBreaths iM_orderMany iM_orderSum iM_leastOrder rM_often iM_setMany iM_someOf iM_allOf iM_allWeight iM_enoughWeight iM_worthSum iM_firstRest iM_leastDrawn), (arI rM_r kM_r 287 fM_r)] [(kM_r, .int)] t) A) ([.ref oM, .int p0] : List Value).toArray s 0 0 A) (F0 m 4 ls []) := by
    intro n_4555
    induction n_4555 with
    | zero => intro z_4553 z_4554 H locs ls hi0_n_4555 hi1_n_4555 hi2_n_4555 hi3_n_4555 hm; exact absurd hm (Nat.not_lt_zero _)
    | succ n_4555 ih_n_4555 =>
      intro z_4553 z_4554 H locs ls hi0_n_4555 hi1_n_4555 hi2_n_4555 hi3_n_4555 hm_n_4555 hG hP hD hS hl
      have hG := hG.trans (HX7_weightsOf_0_eq _ _ _ _ _)
      refine lv_iload_n hx hb dX7_weightsOf_4 rfl (lv_at hl 0 rfl) ?_
      refine lv_aload_n hx hb dX7_weightsOf_5 rfl (lv_at hl 2 rfl) ?_
      refine va_get (D := (dC, dI)) (ci := 7) (v := .ref rM_r) (C := RX7) (T := TX7) (N := 48) hx hb hts inX7 hown hK hP 0 rfl rfl 15 (by decide) (hts _ wd_155) (fun _ h9 => h9) rfl dX7_weightsOf_6 ?_
      refine lv_bipush (v := 27) hx hb dX7_weightsOf_9 (by decide) ?_
      refine lv_iload_n hx hb dX7_weightsOf_11 rfl (lv_at hl 3 rfl) ?_
      refine lv_iadd hx hb dX7_weightsOf_12 ?_
      refine lv_topi (fun x_4556 ex_4556 => ?_)
      have hG := hG.trans (lt_eq ex_4556)
      have vx_4556 : x_4556.toInt = p0.toInt + 27 := om_6c48219a (ti_add ex_4556 kc_27 rfl (om_edd3f7cf hk0.1) (om_cf6669ce hk0.2 s_nodes.2))
      refine va_iald hx hb hK hP 1 0 rfl rfl (ti_in vx_4556 (om_b4b48b7f hk0.1) (om_420abfc6 hk0.2 s_nodes.2)) dX7_weightsOf_13 ?_
      refine lv_topi (fun x_4557 ex_4557 => ?_)
      have hG := hG.trans (lt_eq ex_4557)
      have kx_4557 : (fM_r x_4556.toNatClampNeg).toInt = x_4557.toInt := by rw [ex_4557]
      have cx_4557 : (fM_r (27 + p0.toNatClampNeg)).toInt = x_4557.toInt := by rw [show 27 + p0.toNatClampNeg = x_4556.toNatClampNeg from (om_779a3124 (ti_cl (x := p0) rfl hk0.1) (ti_cl (x := x_4556) vx_4556 (om_b4b48b7f hk0.1)))]; exact kx_4557
      have sx_4557 := r_R.many x_4556.toNatClampNeg (om_ab5399c3 (ti_cl (x := x_4556) vx_4556 (om_b4b48b7f hk0.1)) hk0.1) (om_3b68d876 (ti_cl (x := x_4556) vx_4556 (om_b4b48b7f hk0.1)) hk0.2 s_nodes.2)
      refine lv_icmp_ge (tgt := 39) hx hb dX7_weightsOf_14 (by decide) (fun c_4558 => ?_) (fun c_4558 => ?_)
      · skip
        have hG := hG.trans (if_pos c_4558)
        have gc_4558 := ti_le c_4558 rfl rfl
        refine lv_iload_n hx hb dX7_weightsOf_39 rfl (lv_at hl 1 rfl) ?_
        exact wq_i hx hb hr 0 ⟨⟨trivial, ⟨by omega, by rw [show (fM_r (27 + p0.toNatClampNeg)).toInt.toNat = z_4553.toNatClampNeg from by have q1 := ti_cl (x := z_4553) rfl (by omega); omega]; exact hi3_n_4555⟩⟩, hG⟩ (fun t ht hW => Bw.to hP hD hK ht hW) hS dX7_weightsOf_40 hlocks
      · skip
        have hG := hG.trans (if_neg c_4558)
        have gc_4558 := ti_nle c_4558 rfl rfl
        refine lv_iload_n hx hb dX7_weightsOf_17 rfl (lv_at hl 1 rfl) ?_
        refine lv_aload_n hx hb dX7_weightsOf_18 rfl (lv_at hl 2 rfl) ?_
        refine va_get (D := (dC, dI)) (ci := 7) (v := .ref rM_r) (C := RX7) (T := TX7) (N := 48) hx hb hts inX7 hown hK hP 0 rfl rfl 15 (by decide) (hts _ wd_155) (fun _ h9 => h9) rfl dX7_weightsOf_19 ?_
        refine lv_bipush (v := 45) hx hb dX7_weightsOf_22 (by decide) ?_
        refine lv_iconst (v := 4) hx hb dX7_weightsOf_24 (by decide) ?_
        refine lv_iload_n hx hb dX7_weightsOf_25 rfl (lv_at hl 3 rfl) ?_
        refine lv_imul hx hb dX7_weightsOf_26 ?_
        refine lv_topi (fun x_4559 ex_4559 => ?_)
        have hG := hG.trans (lt_eq ex_4559)
        have vx_4559 : x_4559.toInt = 4 * p0.toInt := ti_mul ex_4559 kc_4 rfl (om_56b74365 hk0.1) (om_eac0354e hk0.2 s_nodes.2)
        refine lv_iadd hx hb dX7_weightsOf_27 ?_
        refine lv_topi (fun x_4560 ex_4560 => ?_)
        have hG := hG.trans (lt_eq ex_4560)
        have vx_4560 : x_4560.toInt = 4 * p0.toInt + 45 := om_702bf7ac (ti_add ex_4560 kc_45 vx_4559 (om_500c1a9b hk0.1) (om_dd0f51e3 hk0.2 s_nodes.2))
        refine lv_iload_n hx hb dX7_weightsOf_28 rfl (lv_at hl 0 rfl) ?_
        refine lv_iadd hx hb dX7_weightsOf_29 ?_
        refine lv_topi (fun x_4561 ex_4561 => ?_)
        have hG := hG.trans (lt_eq ex_4561)
        have vx_4561 : x_4561.toInt = 4 * p0.toInt + z_4553.toInt + 45 := om_0ab12ad6 (ti_add ex_4561 vx_4560 rfl (om_97113e8e hk0.1 hi0_n_4555.1) (om_80d40543 hk0.2 s_nodes.2 hi0_n_4555.2))
        refine va_iald hx hb hK hP 1 0 rfl rfl (ti_in vx_4561 (om_a0b7f4d9 hk0.1 hi0_n_4555.1) (om_34e445bb hk0.2 s_nodes.2 hi0_n_4555.2)) dX7_weightsOf_30 ?_
        refine lv_topi (fun x_4562 ex_4562 => ?_)
        have hG := hG.trans (lt_eq ex_4562)
        have kx_4562 : (fM_r x_4561.toNatClampNeg).toInt = x_4562.toInt := by rw [ex_4562]
        have cx_4562 : (fM_r (45 + 4 * p0.toNatClampNeg + z_4553.toNatClampNeg)).toInt = x_4562.toInt := by rw [show 45 + 4 * p0.toNatClampNeg + z_4553.toNatClampNeg = x_4561.toNatClampNeg from (om_3ba77439 (ti_cl (x := p0) rfl hk0.1) (ti_cl (x := z_4553) rfl hi0_n_4555.1) (ti_cl (x := x_4561) vx_4561 (om_a0b7f4d9 hk0.1 hi0_n_4555.1)))]; exact kx_4562
        have sx_4562 := r_R.wts x_4561.toNatClampNeg (om_9d4b3423 (ti_cl (x := x_4561) vx_4561 (om_a0b7f4d9 hk0.1 hi0_n_4555.1)) hk0.1 hi0_n_4555.1) (om_99207359 (ti_cl (x := x_4561) vx_4561 (om_a0b7f4d9 hk0.1 hi0_n_4555.1)) hk0.2 s_nodes.2 mn_p0.2 cx_4557 gc_4558)
        have xx_4562 : 1 ≤ x_4562.toInt := row_ch r_R (ti_cl (x := p0) rfl hk0.1) (ti_cl (x := z_4553) rfl hi0_n_4555.1) hk0.2 hk3 (om_644b432c cx_4557 gc_4558) (om_798a0efc (ti_cl (x := p0) rfl hk0.1) (ti_cl (x := z_4553) rfl hi0_n_4555.1)) cx_4562
        refine lv_iadd hx hb dX7_weightsOf_31 ?_
        refine lv_topi (fun x_4563 ex_4563 => ?_)
        have hG := hG.trans (lt_eq ex_4563)
        have vx_4563 : x_4563.toInt = x_4562.toInt + z_4554.toInt := om_73fe24c2 (ti_add ex_4563 rfl rfl (om_d91c9d42 hi1_n_4555.1 hi1_n_4555.2 xx_4562) (om_243ebd5d hi0_n_4555.2 hi1_n_4555.2 kx_4562 sx_4562.2))
        refine lv_istore_n (lv' := [(2, .int x_4563), (3, .int z_4553), (0, .ref oM), (1, .int p0)]) hx hb dX7_weightsOf_32 rfl hl (by decide) rfl (fun ls hl => ?_)
        obtain ⟨x_4564, ex_4564⟩ : ∃ z : Int32, z = z_4553 + Int32.ofInt 1 := ⟨_, rfl⟩
        have hG := hG.trans (lt_eq ex_4564)
        have vx_4564 : x_4564.toInt = z_4553.toInt + 1 := ti_add (y := 1) ex_4564 rfl kc_1 (om_4e4fce7e hi0_n_4555.1) (om_bae2951a hi0_n_4555.2)
        refine lv_iinc (v := x_4564) (lv' := [(3, .int x_4564), (2, .int x_4563), (0, .ref oM), (1, .int p0)]) hx hb dX7_weightsOf_33 hl (k := 1) rfl ex_4564.symm (by decide) rfl (fun ls hl => ?_)
        refine lv_goto (tgt := 4) hx hb dX7_weightsOf_36 (by decide) ?_
        exact ih_n_4555 x_4564 x_4563 _ _ _  ⟨(om_83b90de5 hi0_n_4555.1 vx_4564), (om_8267bec5 mn_p0.2 cx_4557 gc_4558 vx_4564)⟩ ⟨(om_e4609cf4 hi1_n_4555.1 xx_4562 vx_4563 vx_4564), (om_e30276bb hi1_n_4555.2 kx_4562 sx_4562.2 vx_4563 vx_4564)⟩ (om_1ad1f819 cx_4557 gc_4558 vx_4564) (sum_step (z := x_4562) hi3_n_4555 ex_4563 (by have q := cx_4562; rw [show 45 + 4 * p0.toNatClampNeg + z_4553.toNatClampNeg = 45 + 4 * p0.toNatClampNeg + z_4553.toNatClampNeg from by omega]; exact q) (by have q1 := ti_cl (x := x_4564) vx_4564 (om_9548a8fd hi0_n_4555.1); have q2 := ti_cl (x := z_4553) rfl hi0_n_4555.1; omega)) (ms_lt hm_n_4555 (om_ed22490e vx_4564) (om_e4be4046 mn_p0.2 cx_4557 gc_4558)) hG hP hD hS (lv_sub hl [0, 1, 2, 3] rfl)
  exact key_n_4555 (((4 - (0 : Int32).toInt).toNat) + 1) 0 0 _ _ _  ⟨(om_b1de7dbe kc_0), (om_bebe011a kc_0)⟩ ⟨om_1cb5f934, (om_59234406 kc_0)⟩ (om_2dfe280d mn_p0.1 kc_0) (by first | (have q0 := kc_0; have q1 := kc_1; omega) | decide | assumption | exact rfl) (Nat.lt_add_one _) hG hP hD hS hl
set_option maxHeartbeats 4000000 in
set_option maxRecDepth 100000 in
theorem tX7_weightOf_x (l : Launch) (dC : Nat → ClassId) (dI : Nat → Nat → Nat) (sz : Nat) (oM : Nat) (iM_thrown : Int32) (rM_tape : Nat) (iM_taped : Int32) (iM_size : Int32) (iM_at : Int32) (iM_end : Int32) (iM_token : Int32) (iM_whole : Int32) (iM_nameSize : Int32) (iM_fault : Int32) (iM_place : Int32) (iM_trouble : Int32) (rM_letters : Nat) (iM_failed : Int32) (iM_hasCourt : Int32) (rM_r : Nat) (fM_r : Nat → Int32) (kM_r : ClassId) (rM_fresh : Nat) (rM_told : Nat) (fM_told : Nat → Int32) (kM_told : ClassId) (rM_read : Nat) (rM_st : Nat) (rM_undone : Nat) (rM_kept : Nat) (iM_undos : Int32) (iM_images : Int32) (rM_fresher : Nat) (iM_fresherSize : Int32) (iM_scale : Int32) (iM_night : Int32) (rM_heardRow : Nat) (rM_cutRow : Nat) (iM_breaths : Int32) (iM_cutMany : Int32) (iM_allBreaths : Int32) (rM_trial : Nat) (rM_words : Nat) (iM_fewestBreaths : Int32) (iM_orderMany : Int32) (iM_orderSum : Int32) (iM_leastOrder : Int32) (rM_often : Nat) (iM_setMany : Int32) (iM_someOf : Int32) (iM_allOf : Int32) (iM_allWeight : Int64) (iM_enoughWeight : Int64) (iM_worthSum : Int64) (iM_firstRest : Int32) (iM_leastDrawn : Int32) (p0 : Int32) (p1 : Int32) (b_iM_taped : 0 ≤ iM_taped.toInt ∧ iM_taped.toInt ≤ 900) (b_iM_size : 0 ≤ iM_size.toInt ∧ iM_size.toInt ≤ 900) (b_iM_end : 0 ≤ iM_end.toInt ∧ iM_end.toInt ≤ 900) (b_iM_failed : 0 ≤ iM_failed.toInt ∧ iM_failed.toInt ≤ 1) (b_iM_hasCourt : 0 ≤ iM_hasCourt.toInt ∧ iM_hasCourt.toInt ≤ 1) (b_iM_undos : 0 ≤ iM_undos.toInt ∧ iM_undos.toInt ≤ 16) (b_iM_images : 0 ≤ iM_images.toInt ∧ iM_images.toInt ≤ 3) (b_iM_scale : 1 ≤ iM_scale.toInt ∧ iM_scale.toInt ≤ 1296) (b_iM_breaths : 0 ≤ iM_breaths.toInt ∧ iM_breaths.toInt ≤ 399) (b_iM_cutMany : 0 ≤ iM_cutMany.toInt ∧ iM_cutMany.toInt ≤ 399) (r_R : ROk fM_r) (r_C : iM_hasCourt.toInt ≤ 0 ∨ (1 ≤ (fM_r 1).toInt ∧ 0 ≤ (fM_r 6).toInt ∧ (fM_r 6).toInt < (fM_r 1).toInt)) (r_told : RowOk fM_r fM_told) (hk0 : 0 ≤ p0.toInt ∧ p0.toInt < (fM_r 1).toInt) : Met l yX7_weightOf (Cond.code yX7_weightOf cX7_weightOf 4 (some .int) :: wG) ({ frames := 0, cells := 0, slots := 0, locals := 0 }) (va_Pc [.ref oM, .int p0, .int p1] (Pw dC dI sz [(oc7 oM iM_thrown rM_tape iM_taped iM_size iM_at iM_end iM_token iM_whole iM_nameSize iM_fault iM_place iM_trouble rM_letters iM_failed iM_hasCourt rM_r rM_fresh rM_told rM_read rM_st rM_undone rM_kept iM_undos iM_images rM_fresher iM_fresherSize iM_scale iM_night rM_heardRow rM_cutRow iM_breaths iM_cutMany iM_allBreaths rM_trial rM_words iM_fewestBreaths iM_orderMany iM_orderSum iM_leastOrder rM_often iM_setMany iM_someOf iM_allOf iM_allWeight iM_enoughWeight iM_worthSum iM_firstRest iM_leastDrawn), (arI rM_r kM_r 287 fM_r), (arI rM_told kM_told 90 fM_told)] [(kM_r, .int), (kM_told, .int)])) (va_Qi (fun (r : Int32) (_ : Nat) => (True ∧ ((0 ≤ r.toInt ∧ r.toInt ≤ 9) ∧ r = wOf fM_r fM_told p0.toNatClampNeg p1 (fM_r (27 + p0.toNatClampNeg)).toInt.toNat 0)) ∧ PX7_weightOf fM_r fM_told p0 p1 = r) (fun (_ : Nat) (t : State) => Bw dC dI (va_A [(oc7 oM iM_thrown rM_tape iM_taped iM_size iM_at iM_end iM_token iM_whole iM_nameSize iM_fault iM_place iM_trouble rM_letters iM_failed iM_hasCourt rM_r rM_fresh rM_told rM_read rM_st rM_undone rM_kept iM_undos iM_images rM_fresher iM_fresherSize iM_scale iM_night rM_heardRow rM_cutRow iM_breaths iM_cutMany iM_allBreaths rM_trial rM_words iM_fewestBreaths iM_orderMany iM_orderSum iM_leastOrder rM_often iM_setMany iM_someOf iM_allOf iM_allWeight iM_enoughWeight iM_worthSum iM_firstRest iM_leastDrawn), (arI rM_r kM_r 287 fM_r), (arI rM_told kM_told 90 fM_told)] sz) [(oc7 oM iM_thrown rM_tape iM_taped iM_size iM_at iM_end iM_token iM_whole iM_nameSize iM_fault iM_place iM_trouble rM_letters iM_failed iM_hasCourt rM_r rM_fresh rM_told rM_read rM_st rM_undone rM_kept iM_undos iM_images rM_fresher iM_fresherSize iM_scale iM_night rM_heardRow rM_cutRow iM_breaths iM_cutMany iM_allBreaths rM_trial rM_words iM_fewestBreaths iM_orderMany iM_orderSum iM_leastOrder rM_often iM_setMany iM_someOf iM_allOf iM_allWeight iM_enoughWeight iM_worthSum iM_firstRest iM_leastDrawn), (arI rM_r kM_r 287 fM_r), (arI rM_told kM_told 90 fM_told)] [(kM_r, .int), (kM_told, .int)] t) (va_A [(oc7 oM iM_thrown rM_tape iM_taped iM_size iM_at iM_end iM_token iM_whole iM_nameSize iM_fault iM_place iM_trouble rM_letters iM_failed iM_hasCourt rM_r rM_fresh rM_told rM_read rM_st rM_undone rM_kept iM_undos iM_images rM_fresher iM_fresherSize iM_scale iM_night rM_heardRow rM_cutRow iM_breaths iM_cutMany iM_allBreaths rM_trial rM_words iM_fewestBreaths iM_orderMany iM_orderSum iM_leastOrder rM_often iM_setMany iM_someOf iM_allOf iM_allWeight iM_enoughWeight iM_worthSum iM_firstRest iM_leastDrawn), (arI rM_r kM_r 287 fM_r), (arI rM_told kM_told 90 fM_told)] sz)) 0 0 (va_A [(oc7 oM iM_thrown rM_tape iM_taped iM_size iM_at iM_end iM_token iM_whole iM_nameSize iM_fault iM_place iM_trouble rM_letters iM_failed iM_hasCourt rM_r rM_fresh rM_told rM_read rM_st rM_undone rM_kept iM_undos iM_images rM_fresher iM_fresherSize iM_scale iM_night rM_heardRow rM_cutRow iM_breaths iM_cutMany iM_allBreaths rM_trial rM_words iM_fewestBreaths iM_orderMany iM_orderSum iM_leastOrder rM_often iM_setMany iM_someOf iM_allOf iM_allWeight iM_enoughWeight iM_worthSum iM_firstRest iM_leastDrawn), (arI rM_r kM_r 287 fM_r), (arI rM_told kM_told 90 fM_told)] sz) := by
  refine Met.ofW (cc := cX7_weightOf) (maxL := 4) (ret := (some .int)) pnX7 rfl ?_
  intro p e s m args below meth c s₁ B hml hv
  obtain ⟨rfl, hsz, hP, hK, hD0, hE⟩ := hv
  have hx := B.exec
  have hb := B.bytes
  have hr := B.returns
  have hts : ∀ w ∈ wG, w.before ([.ref oM, .int p0, .int p1] : List Value).toArray s = true := fun w h => atoms_spec (ws := Cond.code yX7_weightOf cX7_weightOf 4 (some .int) :: wG) B.pre w (List.mem_cons_of_mem _ h)
  have hown : s.vm.findClass RX7 = some m.cls := own_of B.named rfl
  have hlocks := B.notSynchronized
  subst hsz
  have hD := hD0.self (sz := s.heap.size)
  generalize hAe : va_A [(oc7 oM iM_thrown rM_tape iM_taped iM_size iM_at iM_end iM_token iM_whole iM_nameSize iM_fault iM_place iM_trouble rM_letters iM_failed iM_hasCourt rM_r rM_fresh rM_told rM_read rM_st rM_undone rM_kept iM_undos iM_images rM_fresher iM_fresherSize iM_scale iM_night rM_heardRow rM_cutRow iM_breaths iM_cutMany iM_allBreaths rM_trial rM_words iM_fewestBreaths iM_orderMany iM_orderSum iM_leastOrder rM_often iM_setMany iM_someOf iM_allOf iM_allWeight iM_enoughWeight iM_worthSum iM_firstRest iM_leastDrawn), (arI rM_r kM_r 287 fM_r), (arI rM_told kM_told 90 fM_told)] s.heap.size = A at hD hE ⊢
  have hA : ∀ q : Nat, s.heap.size ≤ q → A q := fun q h => by rw [← hAe]; exact Or.inr h
  have hS : va_S A s.heap s.heap [] := va_S.rf
  have hl := lv_entry ([.ref oM, .int p0, .int p1]) (n := 4) (Nat.le_of_ble_eq_true rfl)
  rw [lg_entry_eq]
  generalize (lg_sl ([.ref oM, .int p0, .int p1]) ++ List.replicate (4 - (lg_sl ([.ref oM, .int p0, .int p1])).length) Slot.unset).toArray = ls at hl ⊢
  have hl : lv_has ls 4 [(0, .ref oM), (1, .int p0), (2, .int p1)] := hl
  have hG := PX7_weightOf_eq fM_r fM_told p0 p1
  have rg_p0 := fb_rng p0
  have rg_p1 := fb_rng p1
  have s_slips := r_R.slips
  have s_nodes := r_R.nodes
  have s_uns := r_R.uns
  have q_p0 := ti_cl (x := p0) rfl hk0.1
  have mn_p0 := r_R.many (27 + p0.toNatClampNeg) (Nat.le_add_right _ _) (om_6c263690 (ti_cl (x := p0) rfl hk0.1) hk0.2 s_nodes.2)
  have kn_p0 := r_R.kind (9 + p0.toNatClampNeg) (Nat.le_add_right _ _) (om_57ce868b (ti_cl (x := p0) rfl hk0.1) hk0.2 s_nodes.2)
  have in_p0 := r_R.inner p0.toNatClampNeg (om_05d4ad0a (ti_cl (x := p0) rfl hk0.1) hk0.2)
  refine lv_iconst (v := 0) hx hb dX7_weightOf_0 (by decide) ?_
  refine lv_istore_n (lv' := [(3, .int 0), (0, .ref oM), (1, .int p0), (2, .int p1)]) hx hb dX7_weightOf_1 rfl hl (by decide) rfl (fun ls hl => ?_)
  have hl := lv_sub hl (l' := [(3, .int 0), (0, .ref oM), (1, .int p0), (2, .int p1)]) [0, 1, 2, 3] rfl
  have key_n_4580 : ∀ (n_4580 : Nat) (z_4579 : Int32) (H : Heap) (locs : List Loc) (ls : Array Slot), (0 ≤ z_4579.toInt ∧ z_4579.toInt ≤ 4) → (wOf fM_r fM_told p0.toNatClampNeg p1 (fM_r (27 + p0.toNatClampNeg)).toInt.toNat 0 = wOf fM_r fM_told p0.toNatClampNeg p1 ((fM_r (27 + p0.toNatClampNeg)).toInt.toNat - z_4579.toNatClampNeg) z_4579.toNatClampNeg) → (2147483647 - z_4579.toInt).toNat < n_4580 → (PX7_weightOf fM_r fM_told p0 p1 = HX7_weightOf_0 fM_r fM_told p0 p1 n_4580 z_4579) → va_P (dC, dI) vwCl [(oc7 oM iM_thrown rM_tape iM_taped iM_size iM_at iM_end iM_token iM_whole iM_nameSize iM_fault iM_place iM_trouble rM_letters iM_failed iM_hasCourt rM_r rM_fresh rM_told rM_read rM_st rM_undone rM_kept iM_undos iM_images rM_fresher iM_fresherSize iM_scale iM_night rM_heardRow rM_cutRow iM_breaths iM_cutMany iM_allBreaths rM_trial rM_words iM_fewestBreaths iM_orderMany iM_orderSum iM_leastOrder rM_often iM_setMany iM_someOf iM_allOf iM_allWeight iM_enoughWeight iM_worthSum iM_firstRest iM_leastDrawn), (arI rM_r kM_r 287 fM_r), (arI rM_told kM_told 90 fM_told)] H → va_D A [(oc7 oM iM_thrown rM_tape iM_taped iM_size iM_at iM_end iM_token iM_whole iM_nameSize iM_fault iM_place iM_trouble rM_letters iM_failed iM_hasCourt rM_r rM_fresh rM_told rM_read rM_st rM_undone rM_kept iM_undos iM_images rM_fresher iM_fresherSize iM_scale iM_night rM_heardRow rM_cutRow iM_breaths iM_cutMany iM_allBreaths rM_trial rM_words iM_fewestBreaths iM_orderMany iM_orderSum iM_leastOrder rM_often iM_setMany iM_someOf iM_allOf iM_allWeight iM_enoughWeight iM_worthSum iM_firstRest iM_leastDrawn), (arI rM_r kM_r 287 fM_r), (arI rM_told kM_told 90 fM_told)] → va_S A s.heap H locs → lv_has ls 4 [(3, .int z_4579), (0, .ref oM), (1, .int p0), (2, .int p1)] → W p l e (headSpec (Cond.code yX7_weightOf cX7_weightOf 4 (some .int) :: wG) ({ frames := 0, cells := 0, slots := 0, locals := 0 })).room s m ([.ref oM, .int p0, .int p1] : List Value).toArray below meth c H locs 0 0 (MQ below (va_Qi (fun (r : Int32) (_ : Nat) => (True ∧ ((0 ≤ r.toInt ∧ r.toInt ≤ 9) ∧ r = wOf fM_r fM_told p0.toNatClampNeg p1 (fM_r (27 + p0.toNatClampNeg)).toInt.toNat 0)) ∧ PX7_weightOf fM_r fM_told p0 p1 = r) (fun (_ : Nat) (t : State) => Bw dC dI A [(oc7 oM iM_thrown rM_tape iM_taped iM_size iM_at iM_end iM_token iM_whole iM_nameSize iM_fault iM_place iM_trouble rM_letters iM_failed iM_hasCourt rM_r rM_fresh rM_told rM_read rM_st rM_undone rM_kept iM_undos iM_images rM_fresher iM_fresherSize iM_scale iM_night rM_heardRow rM_cutRow iM_breaths iM_cutMany iM_allBreaths rM_trial rM_words iM_fewestBreaths iM_orderMany iM_orderSum iM_leastOrder rM_often iM_setMany iM_someOf iM_allOf iM_allWeight iM_enoughWeight iM_worthSum iM_firstRest iM_leastDrawn), (arI rM_r kM_r 287 fM_r), (arI rM_told kM_told 90 fM_told)] [(kM_r, .int), (kM_told, .int)] t) A) ([.ref oM, .int p0, .int p1] : List Value).toArray s 0 0 A) (F0 m 2 ls []) := by
    intro n_4580
    induction n_4580 with
    | zero => intro z_4579 H locs ls hi0_n_4580 hi1_n_4580 hm; exact absurd hm (Nat.not_lt_zero _)
    | succ n_4580 ih_n_4580 =>
      intro z_4579 H locs ls hi0_n_4580 hi1_n_4580 hm_n_4580 hG hP hD hS hl
      have hG := hG.trans (HX7_weightOf_0_eq _ _ _ _ _ _)
      have rg_z_4579 := fb_rng z_4579
      refine lv_iload_n hx hb dX7_weightOf_2 rfl (lv_at hl 0 rfl) ?_
      refine lv_aload_n hx hb dX7_weightOf_3 rfl (lv_at hl 1 rfl) ?_
      refine va_get (D := (dC, dI)) (ci := 7) (v := .ref rM_r) (C := RX7) (T := TX7) (N := 48) hx hb hts inX7 hown hK hP 0 rfl rfl 15 (by decide) (hts _ wd_155) (fun _ h9 => h9) rfl dX7_weightOf_4 ?_
      refine lv_bipush (v := 27) hx hb dX7_weightOf_7 (by decide) ?_
      refine lv_iload_n hx hb dX7_weightOf_9 rfl (lv_at hl 2 rfl) ?_
      refine lv_iadd hx hb dX7_weightOf_10 ?_
      refine lv_topi (fun x_4581 ex_4581 => ?_)
      have hG := hG.trans (lt_eq ex_4581)
      have vx_4581 : x_4581.toInt = p0.toInt + 27 := om_6c48219a (ti_add ex_4581 kc_27 rfl (om_edd3f7cf hk0.1) (om_cf6669ce hk0.2 s_nodes.2))
      refine va_iald hx hb hK hP 1 0 rfl rfl (ti_in vx_4581 (om_b4b48b7f hk0.1) (om_420abfc6 hk0.2 s_nodes.2)) dX7_weightOf_11 ?_
      refine lv_topi (fun x_4582 ex_4582 => ?_)
      have hG := hG.trans (lt_eq ex_4582)
      have rg_x_4582 := fb_rng x_4582
      have kx_4582 : (fM_r x_4581.toNatClampNeg).toInt = x_4582.toInt := by rw [ex_4582]
      have cx_4582 : (fM_r (27 + p0.toNatClampNeg)).toInt = x_4582.toInt := by rw [show 27 + p0.toNatClampNeg = x_4581.toNatClampNeg from (om_779a3124 (ti_cl (x := p0) rfl hk0.1) (ti_cl (x := x_4581) vx_4581 (om_b4b48b7f hk0.1)))]; exact kx_4582
      have sx_4582 := r_R.many x_4581.toNatClampNeg (om_ab5399c3 (ti_cl (x := x_4581) vx_4581 (om_b4b48b7f hk0.1)) hk0.1) (om_3b68d876 (ti_cl (x := x_4581) vx_4581 (om_b4b48b7f hk0.1)) hk0.2 s_nodes.2)
      refine lv_icmp_ge (tgt := 49) hx hb dX7_weightOf_12 (by decide) (fun c_4583 => ?_) (fun c_4583 => ?_)
      · skip
        have hG := hG.trans (if_pos c_4583)
        have gc_4583 := ti_le c_4583 rfl rfl
        refine lv_iconst (v := 0) hx hb dX7_weightOf_49 (by decide) ?_
        exact wq_i hx hb hr 0 ⟨⟨trivial, ⟨by decide, wOf_out hi1_n_4580 (by have q2 := ti_cl (x := z_4579) rfl (by omega); omega)⟩⟩, hG⟩ (fun t ht hW => Bw.to hP hD hK ht hW) hS dX7_weightOf_50 hlocks
      · skip
        have hG := hG.trans (if_neg c_4583)
        have gc_4583 := ti_nle c_4583 rfl rfl
        refine lv_aload_n hx hb dX7_weightOf_15 rfl (lv_at hl 1 rfl) ?_
        refine va_get (D := (dC, dI)) (ci := 7) (v := .ref rM_told) (C := RX7) (T := TX7) (N := 48) hx hb hts inX7 hown hK hP 0 rfl rfl 17 (by decide) (hts _ wd_157) (fun _ h9 => h9) rfl dX7_weightOf_16 ?_
        refine lv_iconst (v := 4) hx hb dX7_weightOf_19 (by decide) ?_
        refine lv_iload_n hx hb dX7_weightOf_20 rfl (lv_at hl 2 rfl) ?_
        refine lv_imul hx hb dX7_weightOf_21 ?_
        refine lv_topi (fun x_4584 ex_4584 => ?_)
        have hG := hG.trans (lt_eq ex_4584)
        have vx_4584 : x_4584.toInt = 4 * p0.toInt := ti_mul ex_4584 kc_4 rfl (om_56b74365 hk0.1) (om_eac0354e hk0.2 s_nodes.2)
        refine lv_iload_n hx hb dX7_weightOf_22 rfl (lv_at hl 0 rfl) ?_
        refine lv_iadd hx hb dX7_weightOf_23 ?_
        refine lv_topi (fun x_4585 ex_4585 => ?_)
        have hG := hG.trans (lt_eq ex_4585)
        have vx_4585 : x_4585.toInt = 4 * p0.toInt + z_4579.toInt := om_5d0caf0f (ti_add ex_4585 vx_4584 rfl (om_056a216f hk0.1 hi0_n_4580.1) (om_cddd17b5 hk0.2 s_nodes.2 hi0_n_4580.2))
        refine va_iald hx hb hK hP 2 1 rfl rfl (ti_in vx_4585 (om_fc2812d4 hk0.1 hi0_n_4580.1) (om_50b52c69 hk0.2 s_nodes.2 hi0_n_4580.2)) dX7_weightOf_24 ?_
        refine lv_topi (fun x_4586 ex_4586 => ?_)
        have hG := hG.trans (lt_eq ex_4586)
        have rg_x_4586 := fb_rng x_4586
        have kx_4586 : (fM_told x_4585.toNatClampNeg).toInt = x_4586.toInt := by rw [ex_4586]
        have cx_4586 : (fM_told (4 * p0.toNatClampNeg + z_4579.toNatClampNeg)).toInt = x_4586.toInt := by rw [show 4 * p0.toNatClampNeg + z_4579.toNatClampNeg = x_4585.toNatClampNeg from (om_4de36627 (ti_cl (x := p0) rfl hk0.1) (ti_cl (x := z_4579) rfl hi0_n_4580.1) (ti_cl (x := x_4585) vx_4585 (om_fc2812d4 hk0.1 hi0_n_4580.1)))]; exact kx_4586
        have wx_4586 : 0 ≤ x_4586.toInt ∧ x_4586.toInt < p0.toInt := row_lt r_told (i := z_4579.toNatClampNeg) (ti_cl (x := p0) rfl hk0.1) (ti_cl (x := z_4579) rfl hi0_n_4580.1) hk0.2 (om_644b432c cx_4582 gc_4583) (om_24300f0a (ti_cl (x := p0) rfl hk0.1) (ti_cl (x := z_4579) rfl hi0_n_4580.1)) cx_4586
        refine lv_iload_n hx hb dX7_weightOf_25 rfl (lv_at hl 3 rfl) ?_
        refine lv_icmp_ne (tgt := 43) hx hb dX7_weightOf_26 (by decide) (fun c_4587 => ?_) (fun c_4587 => ?_)
        · skip
          have hG := hG.trans (if_neg c_4587)
          have gc_4587 := ti_ne c_4587 rfl rfl
          obtain ⟨x_4588, ex_4588⟩ : ∃ z : Int32, z = z_4579 + Int32.ofInt 1 := ⟨_, rfl⟩
          have hG := hG.trans (lt_eq ex_4588)
          have vx_4588 : x_4588.toInt = z_4579.toInt + 1 := ti_add (y := 1) ex_4588 rfl kc_1 (om_4e4fce7e hi0_n_4580.1) (om_bae2951a hi0_n_4580.2)
          refine lv_iinc (v := x_4588) (lv' := [(3, .int x_4588), (0, .ref oM), (1, .int p0), (2, .int p1)]) hx hb dX7_weightOf_43 hl (k := 0) rfl ex_4588.symm (by decide) rfl (fun ls hl => ?_)
          refine lv_goto (tgt := 2) hx hb dX7_weightOf_46 (by decide) ?_
          exact ih_n_4580 x_4588 _ _ _  ⟨(om_83b90de5 hi0_n_4580.1 vx_4588), (om_8267bec5 mn_p0.2 cx_4582 gc_4583 vx_4588)⟩ (wOf_next (z := x_4586) hi1_n_4580 (by have q := cx_4586; rw [show 4 * p0.toNatClampNeg + z_4579.toNatClampNeg = 4 * p0.toNatClampNeg + z_4579.toNatClampNeg from by omega]; exact q) (by omega) (by have q2 := ti_cl (x := z_4579) rfl hi0_n_4580.1; omega) (by have q1 := ti_cl (x := x_4588) vx_4588 (om_9548a8fd hi0_n_4580.1); have q2 := ti_cl (x := z_4579) rfl hi0_n_4580.1; omega)) (ms_lt hm_n_4580 (om_b9393183 vx_4588) (om_41b2db40 hi0_n_4580.2)) hG hP hD hS (lv_sub hl [0, 1, 2, 3] rfl)
        · skip
          have hG := hG.trans (if_pos c_4587)
          have gc_4587 := ti_eq c_4587 rfl rfl
          refine lv_aload_n hx hb dX7_weightOf_29 rfl (lv_at hl 1 rfl) ?_
          refine va_get (D := (dC, dI)) (ci := 7) (v := .ref rM_r) (C := RX7) (T := TX7) (N := 48) hx hb hts inX7 hown hK hP 0 rfl rfl 15 (by decide) (hts _ wd_155) (fun _ h9 => h9) rfl dX7_weightOf_30 ?_
          refine lv_bipush (v := 45) hx hb dX7_weightOf_33 (by decide) ?_
          refine lv_iconst (v := 4) hx hb dX7_weightOf_35 (by decide) ?_
          refine lv_iload_n hx hb dX7_weightOf_36 rfl (lv_at hl 2 rfl) ?_
          refine lv_imul hx hb dX7_weightOf_37 ?_
          refine lv_topi (fun x_4589 ex_4589 => ?_)
          have hG := hG.trans (lt_eq ex_4589)
          have vx_4589 : x_4589.toInt = 4 * p0.toInt := ti_mul ex_4589 kc_4 rfl (om_56b74365 hk0.1) (om_eac0354e hk0.2 s_nodes.2)
          refine lv_iadd hx hb dX7_weightOf_38 ?_
          refine lv_topi (fun x_4590 ex_4590 => ?_)
          have hG := hG.trans (lt_eq ex_4590)
          have vx_4590 : x_4590.toInt = 4 * p0.toInt + 45 := om_702bf7ac (ti_add ex_4590 kc_45 vx_4589 (om_500c1a9b hk0.1) (om_dd0f51e3 hk0.2 s_nodes.2))
          refine lv_iload_n hx hb dX7_weightOf_39 rfl (lv_at hl 0 rfl) ?_
          refine lv_iadd hx hb dX7_weightOf_40 ?_
          refine lv_topi (fun x_4591 ex_4591 => ?_)
          have hG := hG.trans (lt_eq ex_4591)
          have vx_4591 : x_4591.toInt = 4 * p0.toInt + z_4579.toInt + 45 := om_0ab12ad6 (ti_add ex_4591 vx_4590 rfl (om_97113e8e hk0.1 hi0_n_4580.1) (om_80d40543 hk0.2 s_nodes.2 hi0_n_4580.2))
          refine va_iald hx hb hK hP 1 0 rfl rfl (ti_in vx_4591 (om_a0b7f4d9 hk0.1 hi0_n_4580.1) (om_34e445bb hk0.2 s_nodes.2 hi0_n_4580.2)) dX7_weightOf_41 ?_
          refine lv_topi (fun x_4592 ex_4592 => ?_)
          have hG := hG.trans (lt_eq ex_4592)
          have rg_x_4592 := fb_rng x_4592
          have kx_4592 : (fM_r x_4591.toNatClampNeg).toInt = x_4592.toInt := by rw [ex_4592]
          have cx_4592 : (fM_r (45 + 4 * p0.toNatClampNeg + z_4579.toNatClampNeg)).toInt = x_4592.toInt := by rw [show 45 + 4 * p0.toNatClampNeg + z_4579.toNatClampNeg = x_4591.toNatClampNeg from (om_3ba77439 (ti_cl (x := p0) rfl hk0.1) (ti_cl (x := z_4579) rfl hi0_n_4580.1) (ti_cl (x := x_4591) vx_4591 (om_a0b7f4d9 hk0.1 hi0_n_4580.1)))]; exact kx_4592
          have sx_4592 := r_R.wts x_4591.toNatClampNeg (om_9d4b3423 (ti_cl (x := x_4591) vx_4591 (om_a0b7f4d9 hk0.1 hi0_n_4580.1)) hk0.1 hi0_n_4580.1) (om_99207359 (ti_cl (x := x_4591) vx_4591 (om_a0b7f4d9 hk0.1 hi0_n_4580.1)) hk0.2 s_nodes.2 mn_p0.2 cx_4582 gc_4583)
          exact wq_i hx hb hr 0 ⟨⟨trivial, ⟨by omega, wOf_hit (z := x_4586) hi1_n_4580 (by have q := cx_4586; rw [show 4 * p0.toNatClampNeg + z_4579.toNatClampNeg = 4 * p0.toNatClampNeg + z_4579.toNatClampNeg from by omega]; exact q) (by omega) (by have q2 := ti_cl (x := z_4579) rfl (by omega); omega) (by have q := cx_4592; rw [show 45 + 4 * p0.toNatClampNeg + z_4579.toNatClampNeg = 45 + 4 * p0.toNatClampNeg + z_4579.toNatClampNeg from by omega]; exact q)⟩⟩, hG⟩ (fun t ht hW => Bw.to hP hD hK ht hW) hS dX7_weightOf_42 hlocks
  exact key_n_4580 (((2147483647 - (0 : Int32).toInt).toNat) + 1) 0 _ _ _  ⟨(om_b1de7dbe kc_0), (om_bebe011a kc_0)⟩ (by first | (have q0 := kc_0; have q1 := kc_1; omega) | decide | assumption | exact rfl) (Nat.lt_add_one _) hG hP hD hS hl
set_option maxHeartbeats 4000000 in
set_option maxRecDepth 100000 in
theorem tX7_worthAt_x_n (l : Launch) (dC : Nat → ClassId) (dI : Nat → Nat → Nat) : ∀ (n9 : Nat) (sz : Nat) (oM : Nat) (iM_thrown : Int32) (rM_tape : Nat) (iM_taped : Int32) (iM_size : Int32) (iM_at : Int32) (iM_end : Int32) (iM_token : Int32) (iM_whole : Int32) (iM_nameSize : Int32) (iM_fault : Int32) (iM_place : Int32) (iM_trouble : Int32) (rM_letters : Nat) (iM_failed : Int32) (iM_hasCourt : Int32) (rM_r : Nat) (fM_r : Nat → Int32) (kM_r : ClassId) (rM_fresh : Nat) (rM_told : Nat) (fM_told : Nat → Int32) (kM_told : ClassId) (rM_read : Nat) (rM_st : Nat) (rM_undone : Nat) (rM_kept : Nat) (iM_undos : Int32) (iM_images : Int32) (rM_fresher : Nat) (iM_fresherSize : Int32) (iM_scale : Int32) (iM_night : Int32) (rM_heardRow : Nat) (rM_cutRow : Nat) (iM_breaths : Int32) (iM_cutMany : Int32) (iM_allBreaths : Int32) (rM_trial : Nat) (rM_words : Nat) (iM_fewestBreaths : Int32) (iM_orderMany : Int32) (iM_orderSum : Int32) (iM_leastOrder : Int32) (rM_often : Nat) (iM_setMany : Int32) (iM_someOf : Int32) (iM_allOf : Int32) (iM_allWeight : Int64) (iM_enoughWeight : Int64) (iM_worthSum : Int64) (iM_firstRest : Int32) (iM_leastDrawn : Int32) (rQ : Nat) (fQ : Nat → Int32) (kQ : ClassId) (p0 : Int32) (p1 : Int32) (b_iM_taped : 0 ≤ iM_taped.toInt ∧ iM_taped.toInt ≤ 900) (b_iM_size : 0 ≤ iM_size.toInt ∧ iM_size.toInt ≤ 900) (b_iM_end : 0 ≤ iM_end.toInt ∧ iM_end.toInt ≤ 900) (b_iM_failed : 0 ≤ iM_failed.toInt ∧ iM_failed.toInt ≤ 1) (b_iM_hasCourt : 0 ≤ iM_hasCourt.toInt ∧ iM_hasCourt.toInt ≤ 1) (b_iM_undos : 0 ≤ iM_undos.toInt ∧ iM_undos.toInt ≤ 16) (b_iM_images : 0 ≤ iM_images.toInt ∧ iM_images.toInt ≤ 3) (b_iM_scale : 1 ≤ iM_scale.toInt ∧ iM_scale.toInt ≤ 1296) (b_iM_breaths : 0 ≤ iM_breaths.toInt ∧ iM_breaths.toInt ≤ 399) (b_iM_cutMany : 0 ≤ iM_cutMany.toInt ∧ iM_cutMany.toInt ≤ 399) (r_R : ROk fM_r) (r_C : iM_hasCourt.toInt ≤ 0 ∨ (1 ≤ (fM_r 1).toInt ∧ 0 ≤ (fM_r 6).toInt ∧ (fM_r 6).toInt < (fM_r 1).toInt)) (r_told : RowOk fM_r fM_told) (r_Q : RowOk fM_r fQ) (hk0 : 0 ≤ p0.toInt ∧ p0.toInt < (fM_r 1).toInt) (hnt : iM_night.toInt = -1) (hdp : 0 ≤ p1.toInt ∧ p1.toInt + p0.toInt ≤ 100) (hn9 : p0.toInt < (n9 : Int)), Met l yX7_worthAt (Cond.code yX7_worthAt cX7_worthAt 9 (some .int) :: wG) ({ frames := 1 + n9, cells := 0, slots := 0, locals := 10 + 28 * n9 }) (va_Pc [.ref oM, .ref rQ, .int p0, .int p1] (Pw dC dI sz [(oc7 oM iM_thrown rM_tape iM_taped iM_size iM_at iM_end iM_token iM_whole iM_nameSize iM_fault iM_place iM_trouble rM_letters iM_failed iM_hasCourt rM_r rM_fresh rM_told rM_read rM_st rM_undone rM_kept iM_undos iM_images rM_fresher iM_fresherSize iM_scale iM_night rM_heardRow rM_cutRow iM_breaths iM_cutMany iM_allBreaths rM_trial rM_words iM_fewestBreaths iM_orderMany iM_orderSum iM_leastOrder rM_often iM_setMany iM_someOf iM_allOf iM_allWeight iM_enoughWeight iM_worthSum iM_firstRest iM_leastDrawn), (arI rM_r kM_r 287 fM_r), (arI rM_told kM_told 90 fM_told), (arI rQ kQ 90 fQ)] [(kM_r, .int), (kM_told, .int), (kQ, .int)])) (va_Qi (fun (r : Int32) (_ : Nat) => (True ∧ (r = rval fM_r fM_told fQ iM_scale n9 p0.toNatClampNeg)) ∧ PX7_worthAt n9 iM_night fM_r fM_told iM_scale fQ p0 p1 = r) (fun (_ : Nat) (t : State) => Bw dC dI (va_A [(oc7 oM iM_thrown rM_tape iM_taped iM_size iM_at iM_end iM_token iM_whole iM_nameSize iM_fault iM_place iM_trouble rM_letters iM_failed iM_hasCourt rM_r rM_fresh rM_told rM_read rM_st rM_undone rM_kept iM_undos iM_images rM_fresher iM_fresherSize iM_scale iM_night rM_heardRow rM_cutRow iM_breaths iM_cutMany iM_allBreaths rM_trial rM_words iM_fewestBreaths iM_orderMany iM_orderSum iM_leastOrder rM_often iM_setMany iM_someOf iM_allOf iM_allWeight iM_enoughWeight iM_worthSum iM_firstRest iM_leastDrawn), (arI rM_r kM_r 287 fM_r), (arI rM_told kM_told 90 fM_told), (arI rQ kQ 90 fQ)] sz) [(oc7 oM iM_thrown rM_tape iM_taped iM_size iM_at iM_end iM_token iM_whole iM_nameSize iM_fault iM_place iM_trouble rM_letters iM_failed iM_hasCourt rM_r rM_fresh rM_told rM_read rM_st rM_undone rM_kept iM_undos iM_images rM_fresher iM_fresherSize iM_scale iM_night rM_heardRow rM_cutRow iM_breaths iM_cutMany iM_allBreaths rM_trial rM_words iM_fewestBreaths iM_orderMany iM_orderSum iM_leastOrder rM_often iM_setMany iM_someOf iM_allOf iM_allWeight iM_enoughWeight iM_worthSum iM_firstRest iM_leastDrawn), (arI rM_r kM_r 287 fM_r), (arI rM_told kM_told 90 fM_told), (arI rQ kQ 90 fQ)] [(kM_r, .int), (kM_told, .int), (kQ, .int)] t) (va_A [(oc7 oM iM_thrown rM_tape iM_taped iM_size iM_at iM_end iM_token iM_whole iM_nameSize iM_fault iM_place iM_trouble rM_letters iM_failed iM_hasCourt rM_r rM_fresh rM_told rM_read rM_st rM_undone rM_kept iM_undos iM_images rM_fresher iM_fresherSize iM_scale iM_night rM_heardRow rM_cutRow iM_breaths iM_cutMany iM_allBreaths rM_trial rM_words iM_fewestBreaths iM_orderMany iM_orderSum iM_leastOrder rM_often iM_setMany iM_someOf iM_allOf iM_allWeight iM_enoughWeight iM_worthSum iM_firstRest iM_leastDrawn), (arI rM_r kM_r 287 fM_r), (arI rM_told kM_told 90 fM_told), (arI rQ kQ 90 fQ)] sz)) 0 0 (va_A [(oc7 oM iM_thrown rM_tape iM_taped iM_size iM_at iM_end iM_token iM_whole iM_nameSize iM_fault iM_place iM_trouble rM_letters iM_failed iM_hasCourt rM_r rM_fresh rM_told rM_read rM_st rM_undone rM_kept iM_undos iM_images rM_fresher iM_fresherSize iM_scale iM_night rM_heardRow rM_cutRow iM_breaths iM_cutMany iM_allBreaths rM_trial rM_words iM_fewestBreaths iM_orderMany iM_orderSum iM_leastOrder rM_often iM_setMany iM_someOf iM_allOf iM_allWeight iM_enoughWeight iM_worthSum iM_firstRest iM_leastDrawn), (arI rM_r kM_r 287 fM_r), (arI rM_told kM_told 90 fM_told), (arI rQ kQ 90 fQ)] sz) := by
  intro n9
  induction n9 with
  | zero => intro sz oM iM_thrown rM_tape iM_taped iM_size iM_at iM_end iM_token iM_whole iM_nameSize iM_fault iM_place iM_trouble rM_letters iM_failed iM_hasCourt rM_r fM_r kM_r rM_fresh rM_told fM_told kM_told rM_read rM_st rM_undone rM_kept iM_undos iM_images rM_fresher iM_fresherSize iM_scale iM_night rM_heardRow rM_cutRow iM_breaths iM_cutMany iM_allBreaths rM_trial rM_words iM_fewestBreaths iM_orderMany iM_orderSum iM_leastOrder rM_often iM_setMany iM_someOf iM_allOf iM_allWeight iM_enoughWeight iM_worthSum iM_firstRest iM_leastDrawn rQ fQ kQ p0 p1 b_iM_taped b_iM_size b_iM_end b_iM_failed b_iM_hasCourt b_iM_undos b_iM_images b_iM_scale b_iM_breaths b_iM_cutMany r_R r_C r_told r_Q hk0 hnt hdp hn9; exact absurd hn9 (by omega)
  | succ n9 ih9 =>
    intro sz oM iM_thrown rM_tape iM_taped iM_size iM_at iM_end iM_token iM_whole iM_nameSize iM_fault iM_place iM_trouble rM_letters iM_failed iM_hasCourt rM_r fM_r kM_r rM_fresh rM_told fM_told kM_told rM_read rM_st rM_undone rM_kept iM_undos iM_images rM_fresher iM_fresherSize iM_scale iM_night rM_heardRow rM_cutRow iM_breaths iM_cutMany iM_allBreaths rM_trial rM_words iM_fewestBreaths iM_orderMany iM_orderSum iM_leastOrder rM_often iM_setMany iM_someOf iM_allOf iM_allWeight iM_enoughWeight iM_worthSum iM_firstRest iM_leastDrawn rQ fQ kQ p0 p1 b_iM_taped b_iM_size b_iM_end b_iM_failed b_iM_hasCourt b_iM_undos b_iM_images b_iM_scale b_iM_breaths b_iM_cutMany r_R r_C r_told r_Q hk0 hnt hdp hn9
    refine Met.ofW (cc := cX7_worthAt) (maxL := 9) (ret := (some .int)) pnX7 rfl ?_
    intro p e s m args below meth c s₁ B hml hv
    obtain ⟨rfl, hsz, hP, hK, hD0, hE⟩ := hv
    have hx := B.exec
    have hb := B.bytes
    have hr := B.returns
    have hts : ∀ w ∈ wG, w.before ([.ref oM, .ref rQ, .int p0, .int p1] : List Value).toArray s = true := fun w h => atoms_spec (ws := Cond.code yX7_worthAt cX7_worthAt 9 (some .int) :: wG) B.pre w (List.mem_cons_of_mem _ h)
    have hown : s.vm.findClass RX7 = some m.cls := own_of B.named rfl
    have hlocks := B.notSynchronized
    subst hsz
    have hD := hD0.self (sz := s.heap.size)
    generalize hAe : va_A [(oc7 oM iM_thrown rM_tape iM_taped iM_size iM_at iM_end iM_token iM_whole iM_nameSize iM_fault iM_place iM_trouble rM_letters iM_failed iM_hasCourt rM_r rM_fresh rM_told rM_read rM_st rM_undone rM_kept iM_undos iM_images rM_fresher iM_fresherSize iM_scale iM_night rM_heardRow rM_cutRow iM_breaths iM_cutMany iM_allBreaths rM_trial rM_words iM_fewestBreaths iM_orderMany iM_orderSum iM_leastOrder rM_often iM_setMany iM_someOf iM_allOf iM_allWeight iM_enoughWeight iM_worthSum iM_firstRest iM_leastDrawn), (arI rM_r kM_r 287 fM_r), (arI rM_told kM_told 90 fM_told), (arI rQ kQ 90 fQ)] s.heap.size = A at hD hE ⊢
    have hA : ∀ q : Nat, s.heap.size ≤ q → A q := fun q h => by rw [← hAe]; exact Or.inr h
    have hS : va_S A s.heap s.heap [] := va_S.rf
    have hl := lv_entry ([.ref oM, .ref rQ, .int p0, .int p1]) (n := 9) (Nat.le_of_ble_eq_true rfl)
    rw [lg_entry_eq]
    generalize (lg_sl ([.ref oM, .ref rQ, .int p0, .int p1]) ++ List.replicate (9 - (lg_sl ([.ref oM, .ref rQ, .int p0, .int p1])).length) Slot.unset).toArray = ls at hl ⊢
    have hl : lv_has ls 9 [(0, .ref oM), (1, .ref rQ), (2, .int p0), (3, .int p1)] := hl
    have hG := PX7_worthAt_eq n9 iM_night fM_r fM_told iM_scale fQ p0 p1
    have s_slips := r_R.slips
    have s_nodes := r_R.nodes
    have s_uns := r_R.uns
    have q_p0 := ti_cl (x := p0) rfl hk0.1
    have mn_p0 := r_R.many (27 + p0.toNatClampNeg) (Nat.le_add_right _ _) (om_6c263690 (ti_cl (x := p0) rfl hk0.1) hk0.2 s_nodes.2)
    have kn_p0 := r_R.kind (9 + p0.toNatClampNeg) (Nat.le_add_right _ _) (om_57ce868b (ti_cl (x := p0) rfl hk0.1) hk0.2 s_nodes.2)
    have in_p0 := r_R.inner p0.toNatClampNeg (om_05d4ad0a (ti_cl (x := p0) rfl hk0.1) hk0.2)
    refine lv_aload_n hx hb dX7_worthAt_0 rfl (lv_at hl 0 rfl) ?_
    refine va_get (D := (dC, dI)) (ci := 7) (v := .ref rM_r) (C := RX7) (T := TX7) (N := 48) hx hb hts inX7 hown hK hP 0 rfl rfl 15 (by decide) (hts _ wd_155) (fun _ h9 => h9) rfl dX7_worthAt_1 ?_
    refine lv_bipush (v := 9) hx hb dX7_worthAt_4 (by decide) ?_
    refine lv_iload_n hx hb dX7_worthAt_6 rfl (lv_at hl 2 rfl) ?_
    refine lv_iadd hx hb dX7_worthAt_7 ?_
    refine lv_topi (fun x_4593 ex_4593 => ?_)
    have hG := hG.trans (lt_eq ex_4593)
    have vx_4593 : x_4593.toInt = p0.toInt + 9 := om_296ce4dd (ti_add ex_4593 kc_9 rfl (om_090bbef4 hk0.1) (om_9ecc8862 hdp.1 hdp.2))
    refine va_iald hx hb hK hP 1 0 rfl rfl (ti_in vx_4593 (om_edbe2e4c hk0.1) (om_2606a7f9 hdp.1 hdp.2)) dX7_worthAt_8 ?_
    refine lv_topi (fun x_4594 ex_4594 => ?_)
    have hG := hG.trans (lt_eq ex_4594)
    have kx_4594 : (fM_r x_4593.toNatClampNeg).toInt = x_4594.toInt := by rw [ex_4594]
    have cx_4594 : (fM_r (9 + p0.toNatClampNeg)).toInt = x_4594.toInt := by rw [show 9 + p0.toNatClampNeg = x_4593.toNatClampNeg from (om_32f1c3e7 (ti_cl (x := p0) rfl hk0.1) (ti_cl (x := x_4593) vx_4593 (om_edbe2e4c hk0.1)))]; exact kx_4594
    have sx_4594 := r_R.kind x_4593.toNatClampNeg (om_462cc4af (ti_cl (x := x_4593) vx_4593 (om_edbe2e4c hk0.1)) hk0.1) (om_7afb9f20 (ti_cl (x := x_4593) vx_4593 (om_edbe2e4c hk0.1)) hk0.2 s_nodes.2)
    refine lv_istore (lv' := [(4, .int x_4594), (0, .ref oM), (1, .ref rQ), (2, .int p0), (3, .int p1)]) hx hb dX7_worthAt_9 hl (by decide) rfl (fun ls hl => ?_)
    refine lv_iload hx hb dX7_worthAt_11 (lv_at hl 0 rfl) ?_
    refine lv_if_ne (tgt := 28) hx hb dX7_worthAt_13 (by decide) (fun c_4595 => ?_) (fun c_4595 => ?_)
    · skip
      have hG := hG.trans (if_neg c_4595)
      have gc_4595 := ti_ne c_4595 rfl kc_0
      refine lv_iload_n hx hb dX7_worthAt_28 rfl (lv_at hl 4 rfl) ?_
      refine lv_aload_n hx hb dX7_worthAt_29 rfl (lv_at hl 1 rfl) ?_
      refine va_get (D := (dC, dI)) (ci := 7) (v := .int iM_night) (C := RX7) (T := TX7) (N := 48) hx hb hts inX7 hown hK hP 0 rfl rfl 27 (by decide) (hts _ wd_164) (fun _ h9 => h9) rfl dX7_worthAt_30 ?_
      refine lv_icmp_ne (tgt := 44) hx hb dX7_worthAt_33 (by decide) (fun c_4596 => ?_) (fun c_4596 => ?_)
      · skip
        have hG := hG.trans (if_neg c_4596)
        have gc_4596 := ti_ne c_4596 rfl rfl
        refine lv_iload hx hb dX7_worthAt_44 (lv_at hl 0 rfl) ?_
        refine lv_iconst (v := 2) hx hb dX7_worthAt_46 (by decide) ?_
        refine lv_icmp_ne (tgt := 55) hx hb dX7_worthAt_47 (by decide) (fun c_4597 => ?_) (fun c_4597 => ?_)
        · skip
          have hG := hG.trans (if_neg c_4597)
          have gc_4597 := ti_ne c_4597 rfl kc_2
          refine lv_iload hx hb dX7_worthAt_55 (lv_at hl 0 rfl) ?_
          refine lv_iconst (v := 1) hx hb dX7_worthAt_57 (by decide) ?_
          refine lv_icmp_ne (tgt := 66) hx hb dX7_worthAt_58 (by decide) (fun c_4598 => ?_) (fun c_4598 => ?_)
          · skip
            have hG := hG.trans (if_neg c_4598)
            have gc_4598 := ti_ne c_4598 rfl kc_1
            refine lv_iconst (v := 0) hx hb dX7_worthAt_66 (by decide) ?_
            refine lv_istore (lv' := [(5, .int 0), (4, .int x_4594), (0, .ref oM), (1, .ref rQ), (2, .int p0), (3, .int p1)]) hx hb dX7_worthAt_67 hl (by decide) rfl (fun ls hl => ?_)
            refine lv_iconst (v := 0) hx hb dX7_worthAt_69 (by decide) ?_
            refine lv_istore (lv' := [(6, .int 0), (5, .int 0), (4, .int x_4594), (0, .ref oM), (1, .ref rQ), (2, .int p0), (3, .int p1)]) hx hb dX7_worthAt_70 hl (by decide) rfl (fun ls hl => ?_)
            have hl := lv_sub hl (l' := [(6, .int 0), (5, .int 0), (4, .int x_4594), (0, .ref oM), (1, .ref rQ), (2, .int p0), (3, .int p1)]) [0, 1, 2, 3, 4, 5, 6] rfl
            have key_n_4601 : ∀ (n_4601 : Nat) (z_4599 : Int32) (z_4600 : Int32) (H : Heap) (locs : List Loc) (ls : Array Slot), (0 ≤ z_4599.toInt ∧ z_4599.toInt ≤ (fM_r (27 + p0.toNatClampNeg)).toInt) → (z_4600 = foldV (fM_r (9 + p0.toNatClampNeg)).toInt (startV (fM_r (9 + p0.toNatClampNeg)).toInt) (VF fM_r fM_told fQ iM_scale n9 p0.toNatClampNeg) (WF fM_r fM_told fQ p0.toNatClampNeg) z_4599.toNatClampNeg) → (4 - z_4599.toInt).toNat < n_4601 → (PX7_worthAt (n9 + 1) iM_night fM_r fM_told iM_scale fQ p0 p1 = HX7_worthAt_2 (PX7_worthAt n9) fM_r fM_told iM_scale iM_night fQ p0 p1 x_4594 n_4601 z_4599 z_4600) → va_P (dC, dI) vwCl [(oc7 oM iM_thrown rM_tape iM_taped iM_size iM_at iM_end iM_token iM_whole iM_nameSize iM_fault iM_place iM_trouble rM_letters iM_failed iM_hasCourt rM_r rM_fresh rM_told rM_read rM_st rM_undone rM_kept iM_undos iM_images rM_fresher iM_fresherSize iM_scale iM_night rM_heardRow rM_cutRow iM_breaths iM_cutMany iM_allBreaths rM_trial rM_words iM_fewestBreaths iM_orderMany iM_orderSum iM_leastOrder rM_often iM_setMany iM_someOf iM_allOf iM_allWeight iM_enoughWeight iM_worthSum iM_firstRest iM_leastDrawn), (arI rM_r kM_r 287 fM_r), (arI rM_told kM_told 90 fM_told), (arI rQ kQ 90 fQ)] H → va_D A [(oc7 oM iM_thrown rM_tape iM_taped iM_size iM_at iM_end iM_token iM_whole iM_nameSize iM_fault iM_place iM_trouble rM_letters iM_failed iM_hasCourt rM_r rM_fresh rM_told rM_read rM_st rM_undone rM_kept iM_undos iM_images rM_fresher iM_fresherSize iM_scale iM_night rM_heardRow rM_cutRow iM_breaths iM_cutMany iM_allBreaths rM_trial rM_words iM_fewestBreaths iM_orderMany iM_orderSum iM_leastOrder rM_often iM_setMany iM_someOf iM_allOf iM_allWeight iM_enoughWeight iM_worthSum iM_firstRest iM_leastDrawn), (arI rM_r kM_r 287 fM_r), (arI rM_told kM_told 90 fM_told), (arI rQ kQ 90 fQ)] → va_S A s.heap H locs → lv_has ls 9 [(6, .int z_4599), (5, .int z_4600), (4, .int x_4594), (0, .ref oM), (1, .ref rQ), (2, .int p0), (3, .int p1)] → W p l e (headSpec (Cond.code yX7_worthAt cX7_worthAt 9 (some .int) :: wG) ({ frames := 1 + (n9 + 1), cells := 0, slots := 0, locals := 10 + 28 * (n9 + 1) })).room s m ([.ref oM, .ref rQ, .int p0, .int p1] : List Value).toArray below meth c H locs 0 0 (MQ below (va_Qi (fun (r : Int32) (_ : Nat) => (True ∧ (r = rval fM_r fM_told fQ iM_scale (n9 + 1) p0.toNatClampNeg)) ∧ PX7_worthAt (n9 + 1) iM_night fM_r fM_told iM_scale fQ p0 p1 = r) (fun (_ : Nat) (t : State) => Bw dC dI A [(oc7 oM iM_thrown rM_tape iM_taped iM_size iM_at iM_end iM_token iM_whole iM_nameSize iM_fault iM_place iM_trouble rM_letters iM_failed iM_hasCourt rM_r rM_fresh rM_told rM_read rM_st rM_undone rM_kept iM_undos iM_images rM_fresher iM_fresherSize iM_scale iM_night rM_heardRow rM_cutRow iM_breaths iM_cutMany iM_allBreaths rM_trial rM_words iM_fewestBreaths iM_orderMany iM_orderSum iM_leastOrder rM_often iM_setMany iM_someOf iM_allOf iM_allWeight iM_enoughWeight iM_worthSum iM_firstRest iM_leastDrawn), (arI rM_r kM_r 287 fM_r), (arI rM_told kM_told 90 fM_told), (arI rQ kQ 90 fQ)] [(kM_r, .int), (kM_told, .int), (kQ, .int)] t) A) ([.ref oM, .ref rQ, .int p0, .int p1] : List Value).toArray s 0 0 A) (F0 m 72 ls []) := by
              intro n_4601
              induction n_4601 with
              | zero => intro z_4599 z_4600 H locs ls hi0_n_4601 hi1_n_4601 hm; exact absurd hm (Nat.not_lt_zero _)
              | succ n_4601 ih_n_4601 =>
                intro z_4599 z_4600 H locs ls hi0_n_4601 hi1_n_4601 hm_n_4601 hG hP hD hS hl
                have hG := hG.trans (HX7_worthAt_2_eq _ _ _ _ _ _ _ _ _ _ _ _)
                refine lv_iload hx hb dX7_worthAt_72 (lv_at hl 0 rfl) ?_
                refine lv_aload_n hx hb dX7_worthAt_74 rfl (lv_at hl 3 rfl) ?_
                refine va_get (D := (dC, dI)) (ci := 7) (v := .ref rM_r) (C := RX7) (T := TX7) (N := 48) hx hb hts inX7 hown hK hP 0 rfl rfl 15 (by decide) (hts _ wd_155) (fun _ h9 => h9) rfl dX7_worthAt_75 ?_
                refine lv_bipush (v := 27) hx hb dX7_worthAt_78 (by decide) ?_
                refine lv_iload_n hx hb dX7_worthAt_80 rfl (lv_at hl 5 rfl) ?_
                refine lv_iadd hx hb dX7_worthAt_81 ?_
                refine lv_topi (fun x_4602 ex_4602 => ?_)
                have hG := hG.trans (lt_eq ex_4602)
                have vx_4602 : x_4602.toInt = p0.toInt + 27 := om_6c48219a (ti_add ex_4602 kc_27 rfl (om_edd3f7cf hk0.1) (om_54ed7536 hdp.1 hdp.2))
                refine va_iald hx hb hK hP 1 0 rfl rfl (ti_in vx_4602 (om_b4b48b7f hk0.1) (om_d6e519bf hdp.1 hdp.2)) dX7_worthAt_82 ?_
                refine lv_topi (fun x_4603 ex_4603 => ?_)
                have hG := hG.trans (lt_eq ex_4603)
                have kx_4603 : (fM_r x_4602.toNatClampNeg).toInt = x_4603.toInt := by rw [ex_4603]
                have cx_4603 : (fM_r (27 + p0.toNatClampNeg)).toInt = x_4603.toInt := by rw [show 27 + p0.toNatClampNeg = x_4602.toNatClampNeg from (om_779a3124 (ti_cl (x := p0) rfl hk0.1) (ti_cl (x := x_4602) vx_4602 (om_b4b48b7f hk0.1)))]; exact kx_4603
                have sx_4603 := r_R.many x_4602.toNatClampNeg (om_ab5399c3 (ti_cl (x := x_4602) vx_4602 (om_b4b48b7f hk0.1)) hk0.1) (om_3b68d876 (ti_cl (x := x_4602) vx_4602 (om_b4b48b7f hk0.1)) hk0.2 s_nodes.2)
                refine lv_icmp_ge (tgt := 179) hx hb dX7_worthAt_83 (by decide) (fun c_4604 => ?_) (fun c_4604 => ?_)
                · skip
                  have hG := hG.trans (if_pos c_4604)
                  have gc_4604 := ti_le c_4604 rfl rfl
                  refine lv_iload hx hb dX7_worthAt_179 (lv_at hl 2 rfl) ?_
                  refine lv_iconst (v := 3) hx hb dX7_worthAt_181 (by decide) ?_
                  refine lv_icmp_ne (tgt := 196) hx hb dX7_worthAt_182 (by decide) (fun c_4605 => ?_) (fun c_4605 => ?_)
                  · skip
                    have hG := hG.trans (if_neg c_4605)
                    have gc_4605 := ti_ne c_4605 rfl kc_3
                    refine lv_iload hx hb dX7_worthAt_196 (lv_at hl 1 rfl) ?_
                    exact wq_i hx hb hr 0 ⟨⟨trivial, (rval_fold (by omega) (by omega) hi1_n_4601 (by have q1 := ti_cl (x := z_4599) rfl (by omega); omega))⟩, hG⟩ (fun t ht hW => Bw.to hP hD hK ht hW) hS dX7_worthAt_198 hlocks
                  · skip
                    have hG := hG.trans (if_pos c_4605)
                    have gc_4605 := ti_eq c_4605 rfl kc_3
                    refine lv_iload hx hb dX7_worthAt_185 (lv_at hl 1 rfl) ?_
                    refine lv_aload_n hx hb dX7_worthAt_187 rfl (lv_at hl 3 rfl) ?_
                    refine lv_iload_n hx hb dX7_worthAt_188 rfl (lv_at hl 5 rfl) ?_
                    have hMs := ml_of hD [true, true, false, false] (wc := [(oc7 oM iM_thrown rM_tape iM_taped iM_size iM_at iM_end iM_token iM_whole iM_nameSize iM_fault iM_place iM_trouble rM_letters iM_failed iM_hasCourt rM_r rM_fresh rM_told rM_read rM_st rM_undone rM_kept iM_undos iM_images rM_fresher iM_fresherSize iM_scale iM_night rM_heardRow rM_cutRow iM_breaths iM_cutMany iM_allBreaths rM_trial rM_words iM_fewestBreaths iM_orderMany iM_orderSum iM_leastOrder rM_often iM_setMany iM_someOf iM_allOf iM_allWeight iM_enoughWeight iM_worthSum iM_firstRest iM_leastDrawn), (arI rM_r kM_r 287 fM_r)]) rfl
                    have hFc := va_freeM hD hS hA _ hMs
                    refine va_calli (va_runV (As := [.int p0]) (rest := [.int z_4600]) ⟨hx, hb, hml, hown, hts⟩ (tX7_weightsOf_x l dC dI _ oM iM_thrown rM_tape iM_taped iM_size iM_at iM_end iM_token iM_whole iM_nameSize iM_fault iM_place iM_trouble rM_letters iM_failed iM_hasCourt rM_r fM_r kM_r rM_fresh rM_told rM_read rM_st rM_undone rM_kept iM_undos iM_images rM_fresher iM_fresherSize iM_scale iM_night rM_heardRow rM_cutRow iM_breaths iM_cutMany iM_allBreaths rM_trial rM_words iM_fewestBreaths iM_orderMany iM_orderSum iM_leastOrder rM_often iM_setMany iM_someOf iM_allOf iM_allWeight iM_enoughWeight iM_worthSum iM_firstRest iM_leastDrawn p0 b_iM_taped b_iM_size b_iM_end b_iM_failed b_iM_hasCourt b_iM_undos b_iM_images b_iM_scale b_iM_breaths b_iM_cutMany (by assumption) (by assumption) ⟨hk0.1, hk0.2⟩ (om_9acf6818 kn_p0.2 cx_4594 gc_4605)) (cwV 1 hts (wd_V wd_506 wd_507 wd_508 wd_5 (wd_c wd_509)) rfl rfl rfl dv_yX7_weightsOf_1 ⟨(om_8728f9b4 n9), (om_b2aa452b n9)⟩) ⟨Pw.fb, recvX7 hK hP (q0 := 0) rfl, fun U hU hW => Pw.to (hP.ms _ hMs) (hD.ms _ hMs) (hK.ms [true, false, false] rfl) hE hS hFc hU hW⟩ rfl rfl hl.1 rfl (lv_room (Nat.le_of_ble_eq_true rfl)) dX7_worthAt_189 ⟨Nat.le_of_ble_eq_true rfl, Nat.le_of_ble_eq_true rfl⟩) hS (fun q _ h => hFc q h) hFc (fun r u t H locs ht hvm hw hB hz1 hk1 hS => ?_)
                    have hru9 := hw.2
                    have hw := hw.1
                    obtain ⟨hP, hD⟩ := Bw.goN (ws' := [(oc7 oM iM_thrown rM_tape iM_taped iM_size iM_at iM_end iM_token iM_whole iM_nameSize iM_fault iM_place iM_trouble rM_letters iM_failed iM_hasCourt rM_r rM_fresh rM_told rM_read rM_st rM_undone rM_kept iM_undos iM_images rM_fresher iM_fresherSize iM_scale iM_night rM_heardRow rM_cutRow iM_breaths iM_cutMany iM_allBreaths rM_trial rM_words iM_fewestBreaths iM_orderMany iM_orderSum iM_leastOrder rM_often iM_setMany iM_someOf iM_allOf iM_allWeight iM_enoughWeight iM_worthSum iM_firstRest iM_leastDrawn), (arI rM_r kM_r 287 fM_r), (arI rM_told kM_told 90 fM_told), (arI rQ kQ 90 fQ)]) hB rfl ht hP hD _ hMs hk1 hFc rfl
                    clear hz1 hk1 hvm ht hB hMs
                    obtain ⟨x_4606, rfl⟩ : ∃ z, z = r := ⟨_, rfl⟩
                    have hG := hG.trans (lt_eq hru9.symm)
                    have lx_4606 := hw.2
                    have ux_4606 := hw.2
                    refine lv_idiv hx hb dX7_worthAt_192 (ti_n0 rfl (by omega)) ?_
                    refine lv_topi (fun x_4607 ex_4607 => ?_)
                    have hG := hG.trans (lt_eq ex_4607)
                    refine lv_goto (tgt := 198) hx hb dX7_worthAt_193 (by decide) ?_
                    exact wq_i hx hb hr 0 ⟨⟨trivial, (rval_ch (by omega) hi1_n_4601 (by have q1 := ti_cl (x := z_4599) rfl (by omega); omega) lx_4606.2 ex_4607)⟩, hG⟩ (fun t ht hW => Bw.to hP hD hK ht hW) hS dX7_worthAt_198 hlocks
                · skip
                  have hG := hG.trans (if_neg c_4604)
                  have gc_4604 := ti_nle c_4604 rfl rfl
                  refine lv_aload_n hx hb dX7_worthAt_86 rfl (lv_at hl 4 rfl) ?_
                  refine lv_iconst (v := 4) hx hb dX7_worthAt_87 (by decide) ?_
                  refine lv_iload_n hx hb dX7_worthAt_88 rfl (lv_at hl 5 rfl) ?_
                  refine lv_imul hx hb dX7_worthAt_89 ?_
                  refine lv_topi (fun x_4608 ex_4608 => ?_)
                  have hG := hG.trans (lt_eq ex_4608)
                  have vx_4608 : x_4608.toInt = 4 * p0.toInt := ti_mul ex_4608 kc_4 rfl (om_56b74365 hk0.1) (om_1e4644e1 hdp.1 hdp.2)
                  refine lv_iload hx hb dX7_worthAt_90 (lv_at hl 0 rfl) ?_
                  refine lv_iadd hx hb dX7_worthAt_92 ?_
                  refine lv_topi (fun x_4609 ex_4609 => ?_)
                  have hG := hG.trans (lt_eq ex_4609)
                  have vx_4609 : x_4609.toInt = 4 * p0.toInt + z_4599.toInt := om_5d0caf0f (ti_add ex_4609 vx_4608 rfl (om_056a216f hk0.1 hi0_n_4601.1) (om_9fd6b7da hdp.1 hdp.2 mn_p0.2 hi0_n_4601.2))
                  refine va_iald hx hb hK hP 3 2 rfl rfl (ti_in vx_4609 (om_fc2812d4 hk0.1 hi0_n_4601.1) (om_01db022b hk0.2 s_nodes.2 mn_p0.2 hi0_n_4601.2)) dX7_worthAt_93 ?_
                  refine lv_topi (fun x_4610 ex_4610 => ?_)
                  have hG := hG.trans (lt_eq ex_4610)
                  have kx_4610 : (fQ x_4609.toNatClampNeg).toInt = x_4610.toInt := by rw [ex_4610]
                  have cx_4610 : (fQ (4 * p0.toNatClampNeg + z_4599.toNatClampNeg)).toInt = x_4610.toInt := by rw [show 4 * p0.toNatClampNeg + z_4599.toNatClampNeg = x_4609.toNatClampNeg from (om_4de36627 (ti_cl (x := p0) rfl hk0.1) (ti_cl (x := z_4599) rfl hi0_n_4601.1) (ti_cl (x := x_4609) vx_4609 (om_fc2812d4 hk0.1 hi0_n_4601.1)))]; exact kx_4610
                  have wx_4610 : 0 ≤ x_4610.toInt ∧ x_4610.toInt < p0.toInt := row_lt r_Q (i := z_4599.toNatClampNeg) (ti_cl (x := p0) rfl hk0.1) (ti_cl (x := z_4599) rfl hi0_n_4601.1) hk0.2 (om_644b432c cx_4603 gc_4604) (om_24300f0a (ti_cl (x := p0) rfl hk0.1) (ti_cl (x := z_4599) rfl hi0_n_4601.1)) cx_4610
                  refine lv_istore (lv' := [(7, .int x_4610), (6, .int z_4599), (5, .int z_4600), (4, .int x_4594), (0, .ref oM), (1, .ref rQ), (2, .int p0), (3, .int p1)]) hx hb dX7_worthAt_94 hl (by decide) rfl (fun ls hl => ?_)
                  refine lv_aload_n hx hb dX7_worthAt_96 rfl (lv_at hl 4 rfl) ?_
                  refine lv_aload_n hx hb dX7_worthAt_97 rfl (lv_at hl 5 rfl) ?_
                  refine lv_iload hx hb dX7_worthAt_98 (lv_at hl 0 rfl) ?_
                  refine lv_iload_n hx hb dX7_worthAt_100 rfl (lv_at hl 7 rfl) ?_
                  refine lv_iconst (v := 1) hx hb dX7_worthAt_101 (by decide) ?_
                  refine lv_iadd hx hb dX7_worthAt_102 ?_
                  refine lv_topi (fun x_4611 ex_4611 => ?_)
                  have hG := hG.trans (lt_eq ex_4611)
                  have vx_4611 : x_4611.toInt = p1.toInt + 1 := ti_add ex_4611 rfl kc_1 (om_4e4fce7e hdp.1) (om_994f3184 hk0.1 hdp.2)
                  have hFc := va_freeI hD hS hA
                  refine va_calli (va_runV (As := [.ref rQ, .int x_4610, .int x_4611]) (rest := []) ⟨hx, hb, hml, hown, hts⟩ (ih9 _ oM iM_thrown rM_tape iM_taped iM_size iM_at iM_end iM_token iM_whole iM_nameSize iM_fault iM_place iM_trouble rM_letters iM_failed iM_hasCourt rM_r fM_r kM_r rM_fresh rM_told fM_told kM_told rM_read rM_st rM_undone rM_kept iM_undos iM_images rM_fresher iM_fresherSize iM_scale iM_night rM_heardRow rM_cutRow iM_breaths iM_cutMany iM_allBreaths rM_trial rM_words iM_fewestBreaths iM_orderMany iM_orderSum iM_leastOrder rM_often iM_setMany iM_someOf iM_allOf iM_allWeight iM_enoughWeight iM_worthSum iM_firstRest iM_leastDrawn rQ fQ kQ x_4610 x_4611 b_iM_taped b_iM_size b_iM_end b_iM_failed b_iM_hasCourt b_iM_undos b_iM_images b_iM_scale b_iM_breaths b_iM_cutMany (by assumption) (by assumption) (by assumption) (by assumption) ⟨wx_4610.1, (om_90a71968 hk0.2 wx_4610.2)⟩ hnt ⟨(om_83b90de5 hdp.1 vx_4611), (om_a06ed41a hdp.2 wx_4610.2 vx_4611)⟩ (by first | assumption | (have q0 := kc_0; have q1 := kc_1; first | exact ⟨by omega, by omega⟩ | omega) | decide | (intro h; exact absurd h (by decide)))) (cwV 3 hts (wd_V wd_649 wd_650 wd_651 wd_5 (wd_c wd_652)) rfl rfl rfl (by decide +kernel) ⟨(om_70783806 n9), (om_5b028cd8 n9)⟩) ⟨Pw.fb, recvX7 hK hP (q0 := 0) rfl, fun U hU hW => Pw.to hP hD hK hE hS hFc hU hW⟩ rfl rfl hl.1 rfl (lv_room (Nat.le_of_ble_eq_true rfl)) dX7_worthAt_103 ⟨Nat.le_of_ble_eq_true rfl, Nat.le_of_ble_eq_true rfl⟩) hS (fun q _ h => hFc q h) hFc (fun r u t H locs ht hvm hw hB hz1 hk1 hS => ?_)
                  have hru9 := hw.2
                  have hw := hw.1
                  obtain ⟨hP, hD⟩ := Bw.goA (ws' := [(oc7 oM iM_thrown rM_tape iM_taped iM_size iM_at iM_end iM_token iM_whole iM_nameSize iM_fault iM_place iM_trouble rM_letters iM_failed iM_hasCourt rM_r rM_fresh rM_told rM_read rM_st rM_undone rM_kept iM_undos iM_images rM_fresher iM_fresherSize iM_scale iM_night rM_heardRow rM_cutRow iM_breaths iM_cutMany iM_allBreaths rM_trial rM_words iM_fewestBreaths iM_orderMany iM_orderSum iM_leastOrder rM_often iM_setMany iM_someOf iM_allOf iM_allWeight iM_enoughWeight iM_worthSum iM_firstRest iM_leastDrawn), (arI rM_r kM_r 287 fM_r), (arI rM_told kM_told 90 fM_told), (arI rQ kQ 90 fQ)]) hB rfl ht hFc rfl
                  clear hz1 hk1 hvm ht hB
                  obtain ⟨x_4612, rfl⟩ : ∃ z, z = r := ⟨_, rfl⟩
                  have hG := hG.trans (lt_eq hru9.symm)
                  have lx_4612 := hw.2
                  refine lv_istore (lv' := [(8, .int x_4612), (7, .int x_4610), (6, .int z_4599), (5, .int z_4600), (4, .int x_4594), (0, .ref oM), (1, .ref rQ), (2, .int p0), (3, .int p1)]) hx hb dX7_worthAt_106 hl (by decide) rfl (fun ls hl => ?_)
                  refine lv_iload hx hb dX7_worthAt_108 (lv_at hl 4 rfl) ?_
                  refine lv_iconst (v := 1) hx hb dX7_worthAt_110 (by decide) ?_
                  refine lv_icmp_ne (tgt := 133) hx hb dX7_worthAt_111 (by decide) (fun c_4613 => ?_) (fun c_4613 => ?_)
                  · skip
                    have hG := hG.trans (if_neg c_4613)
                    have gc_4613 := ti_ne c_4613 rfl kc_1
                    refine lv_iload hx hb dX7_worthAt_133 (lv_at hl 4 rfl) ?_
                    refine lv_iconst (v := 2) hx hb dX7_worthAt_135 (by decide) ?_
                    refine lv_icmp_ne (tgt := 158) hx hb dX7_worthAt_136 (by decide) (fun c_4614 => ?_) (fun c_4614 => ?_)
                    · skip
                      have hG := hG.trans (if_neg c_4614)
                      have gc_4614 := ti_ne c_4614 rfl kc_2
                      refine lv_iload hx hb dX7_worthAt_158 (lv_at hl 3 rfl) ?_
                      refine lv_iload hx hb dX7_worthAt_160 (lv_at hl 0 rfl) ?_
                      refine lv_aload_n hx hb dX7_worthAt_162 rfl (lv_at hl 5 rfl) ?_
                      refine lv_iload_n hx hb dX7_worthAt_163 rfl (lv_at hl 7 rfl) ?_
                      refine lv_iload hx hb dX7_worthAt_164 (lv_at hl 1 rfl) ?_
                      have hMs := ml_of hD [true, true, true, false] (wc := [(oc7 oM iM_thrown rM_tape iM_taped iM_size iM_at iM_end iM_token iM_whole iM_nameSize iM_fault iM_place iM_trouble rM_letters iM_failed iM_hasCourt rM_r rM_fresh rM_told rM_read rM_st rM_undone rM_kept iM_undos iM_images rM_fresher iM_fresherSize iM_scale iM_night rM_heardRow rM_cutRow iM_breaths iM_cutMany iM_allBreaths rM_trial rM_words iM_fewestBreaths iM_orderMany iM_orderSum iM_leastOrder rM_often iM_setMany iM_someOf iM_allOf iM_allWeight iM_enoughWeight iM_worthSum iM_firstRest iM_leastDrawn), (arI rM_r kM_r 287 fM_r), (arI rM_told kM_told 90 fM_told)]) rfl
                      have hFc := va_freeM hD hS hA _ hMs
                      refine va_calli (va_runV (As := [.int p0, .int x_4610]) (rest := [.int x_4612, .int z_4600]) ⟨hx, hb, hml, hown, hts⟩ (tX7_weightOf_x l dC dI _ oM iM_thrown rM_tape iM_taped iM_size iM_at iM_end iM_token iM_whole iM_nameSize iM_fault iM_place iM_trouble rM_letters iM_failed iM_hasCourt rM_r fM_r kM_r rM_fresh rM_told fM_told kM_told rM_read rM_st rM_undone rM_kept iM_undos iM_images rM_fresher iM_fresherSize iM_scale iM_night rM_heardRow rM_cutRow iM_breaths iM_cutMany iM_allBreaths rM_trial rM_words iM_fewestBreaths iM_orderMany iM_orderSum iM_leastOrder rM_often iM_setMany iM_someOf iM_allOf iM_allWeight iM_enoughWeight iM_worthSum iM_firstRest iM_leastDrawn p0 x_4610 b_iM_taped b_iM_size b_iM_end b_iM_failed b_iM_hasCourt b_iM_undos b_iM_images b_iM_scale b_iM_breaths b_iM_cutMany (by assumption) (by assumption) (by assumption) ⟨hk0.1, hk0.2⟩) (cwV 2 hts (wd_V wd_587 wd_588 wd_589 wd_5 (wd_c wd_590)) rfl rfl rfl dv_yX7_weightOf_2 ⟨(om_8728f9b4 n9), (om_b2aa452b n9)⟩) ⟨Pw.fb, recvX7 hK hP (q0 := 0) rfl, fun U hU hW => Pw.to (hP.ms _ hMs) (hD.ms _ hMs) (hK.ms [true, true, false] rfl) hE hS hFc hU hW⟩ rfl rfl hl.1 rfl (lv_room (Nat.le_of_ble_eq_true rfl)) dX7_worthAt_166 ⟨Nat.le_of_ble_eq_true rfl, Nat.le_of_ble_eq_true rfl⟩) hS (fun q _ h => hFc q h) hFc (fun r u t H locs ht hvm hw hB hz1 hk1 hS => ?_)
                      have hru9 := hw.2
                      have hw := hw.1
                      obtain ⟨hP, hD⟩ := Bw.goN (ws' := [(oc7 oM iM_thrown rM_tape iM_taped iM_size iM_at iM_end iM_token iM_whole iM_nameSize iM_fault iM_place iM_trouble rM_letters iM_failed iM_hasCourt rM_r rM_fresh rM_told rM_read rM_st rM_undone rM_kept iM_undos iM_images rM_fresher iM_fresherSize iM_scale iM_night rM_heardRow rM_cutRow iM_breaths iM_cutMany iM_allBreaths rM_trial rM_words iM_fewestBreaths iM_orderMany iM_orderSum iM_leastOrder rM_often iM_setMany iM_someOf iM_allOf iM_allWeight iM_enoughWeight iM_worthSum iM_firstRest iM_leastDrawn), (arI rM_r kM_r 287 fM_r), (arI rM_told kM_told 90 fM_told), (arI rQ kQ 90 fQ)]) hB rfl ht hP hD _ hMs hk1 hFc rfl
                      clear hz1 hk1 hvm ht hB hMs
                      obtain ⟨x_4615, rfl⟩ : ∃ z, z = r := ⟨_, rfl⟩
                      have hG := hG.trans (lt_eq hru9.symm)
                      have lx_4615 := hw.2
                      have ux_4615 := hw.2
                      refine lv_imul hx hb dX7_worthAt_169 ?_
                      refine lv_topi (fun x_4616 ex_4616 => ?_)
                      have hG := hG.trans (lt_eq ex_4616)
                      refine lv_iadd hx hb dX7_worthAt_170 ?_
                      refine lv_topi (fun x_4617 ex_4617 => ?_)
                      have hG := hG.trans (lt_eq ex_4617)
                      refine lv_istore (lv' := [(5, .int x_4617), (8, .int x_4612), (7, .int x_4610), (6, .int z_4599), (4, .int x_4594), (0, .ref oM), (1, .ref rQ), (2, .int p0), (3, .int p1)]) hx hb dX7_worthAt_171 hl (by decide) rfl (fun ls hl => ?_)
                      obtain ⟨x_4618, ex_4618⟩ : ∃ z : Int32, z = z_4599 + Int32.ofInt 1 := ⟨_, rfl⟩
                      have hG := hG.trans (lt_eq ex_4618)
                      have vx_4618 : x_4618.toInt = z_4599.toInt + 1 := ti_add (y := 1) ex_4618 rfl kc_1 (om_4e4fce7e hi0_n_4601.1) (om_d6392c09 mn_p0.2 hi0_n_4601.2)
                      refine lv_iinc (v := x_4618) (lv' := [(6, .int x_4618), (5, .int x_4617), (8, .int x_4612), (7, .int x_4610), (4, .int x_4594), (0, .ref oM), (1, .ref rQ), (2, .int p0), (3, .int p1)]) hx hb dX7_worthAt_173 hl (k := 3) rfl ex_4618.symm (by decide) rfl (fun ls hl => ?_)
                      refine lv_goto (tgt := 72) hx hb dX7_worthAt_176 (by decide) ?_
                      exact ih_n_4601 x_4618 x_4617 _ _ _  ⟨(om_83b90de5 hi0_n_4601.1 vx_4618), (om_1ad1f819 cx_4603 gc_4604 vx_4618)⟩ (fold_step (v := x_4612) (part := x_4610) hi1_n_4601 (by have q := cx_4610; rw [show 4 * p0.toNatClampNeg + z_4599.toNatClampNeg = 4 * p0.toNatClampNeg + z_4599.toNatClampNeg from by omega]; exact q) lx_4612 (step_c (by omega) (by omega) ex_4617 ex_4616 lx_4615.2) (by have q1 := ti_cl (x := x_4618) vx_4618 (om_9548a8fd hi0_n_4601.1); have q2 := ti_cl (x := z_4599) rfl hi0_n_4601.1; omega)) (ms_lt hm_n_4601 (om_ed22490e vx_4618) (om_e4be4046 mn_p0.2 cx_4603 gc_4604)) hG hP hD hS (lv_sub hl [0, 1, 4, 5, 6, 7, 8] rfl)
                    · skip
                      have hG := hG.trans (if_pos c_4614)
                      have gc_4614 := ti_eq c_4614 rfl kc_2
                      refine lv_iload hx hb dX7_worthAt_139 (lv_at hl 0 rfl) ?_
                      refine lv_iload hx hb dX7_worthAt_141 (lv_at hl 3 rfl) ?_
                      refine lv_icmp_ge (tgt := 151) hx hb dX7_worthAt_143 (by decide) (fun c_4619 => ?_) (fun c_4619 => ?_)
                      · skip
                        have hG := hG.trans (if_pos c_4619)
                        have gc_4619 := ti_le c_4619 rfl rfl
                        refine lv_iload hx hb dX7_worthAt_151 (lv_at hl 3 rfl) ?_
                        refine lv_istore (lv' := [(5, .int z_4600), (8, .int x_4612), (7, .int x_4610), (6, .int z_4599), (4, .int x_4594), (0, .ref oM), (1, .ref rQ), (2, .int p0), (3, .int p1)]) hx hb dX7_worthAt_153 hl (by decide) rfl (fun ls hl => ?_)
                        refine lv_goto (tgt := 173) hx hb dX7_worthAt_155 (by decide) ?_
                        obtain ⟨x_4620, ex_4620⟩ : ∃ z : Int32, z = z_4599 + Int32.ofInt 1 := ⟨_, rfl⟩
                        have hG := hG.trans (lt_eq ex_4620)
                        have vx_4620 : x_4620.toInt = z_4599.toInt + 1 := ti_add (y := 1) ex_4620 rfl kc_1 (om_4e4fce7e hi0_n_4601.1) (om_d6392c09 mn_p0.2 hi0_n_4601.2)
                        refine lv_iinc (v := x_4620) (lv' := [(6, .int x_4620), (5, .int z_4600), (8, .int x_4612), (7, .int x_4610), (4, .int x_4594), (0, .ref oM), (1, .ref rQ), (2, .int p0), (3, .int p1)]) hx hb dX7_worthAt_173 hl (k := 3) rfl ex_4620.symm (by decide) rfl (fun ls hl => ?_)
                        refine lv_goto (tgt := 72) hx hb dX7_worthAt_176 (by decide) ?_
                        exact ih_n_4601 x_4620 z_4600 _ _ _  ⟨(om_83b90de5 hi0_n_4601.1 vx_4620), (om_1ad1f819 cx_4603 gc_4604 vx_4620)⟩ (fold_step (v := x_4612) (part := x_4610) hi1_n_4601 (by have q := cx_4610; rw [show 4 * p0.toNatClampNeg + z_4599.toNatClampNeg = 4 * p0.toNatClampNeg + z_4599.toNatClampNeg from by omega]; exact q) lx_4612 (by first | exact step_k0 (by omega) (by omega) | exact step_q0 (by omega) (by omega)) (by have q1 := ti_cl (x := x_4620) vx_4620 (om_9548a8fd hi0_n_4601.1); have q2 := ti_cl (x := z_4599) rfl hi0_n_4601.1; omega)) (ms_lt hm_n_4601 (om_ed22490e vx_4620) (om_e4be4046 mn_p0.2 cx_4603 gc_4604)) hG hP hD hS (lv_sub hl [0, 1, 4, 5, 6, 7, 8] rfl)
                      · skip
                        have hG := hG.trans (if_neg c_4619)
                        have gc_4619 := ti_nle c_4619 rfl rfl
                        refine lv_iload hx hb dX7_worthAt_146 (lv_at hl 0 rfl) ?_
                        refine lv_goto (tgt := 153) hx hb dX7_worthAt_148 (by decide) ?_
                        refine lv_istore (lv' := [(5, .int x_4612), (8, .int x_4612), (7, .int x_4610), (6, .int z_4599), (4, .int x_4594), (0, .ref oM), (1, .ref rQ), (2, .int p0), (3, .int p1)]) hx hb dX7_worthAt_153 hl (by decide) rfl (fun ls hl => ?_)
                        refine lv_goto (tgt := 173) hx hb dX7_worthAt_155 (by decide) ?_
                        obtain ⟨x_4621, ex_4621⟩ : ∃ z : Int32, z = z_4599 + Int32.ofInt 1 := ⟨_, rfl⟩
                        have hG := hG.trans (lt_eq ex_4621)
                        have vx_4621 : x_4621.toInt = z_4599.toInt + 1 := ti_add (y := 1) ex_4621 rfl kc_1 (om_4e4fce7e hi0_n_4601.1) (om_d6392c09 mn_p0.2 hi0_n_4601.2)
                        refine lv_iinc (v := x_4621) (lv' := [(6, .int x_4621), (5, .int x_4612), (8, .int x_4612), (7, .int x_4610), (4, .int x_4594), (0, .ref oM), (1, .ref rQ), (2, .int p0), (3, .int p1)]) hx hb dX7_worthAt_173 hl (k := 3) rfl ex_4621.symm (by decide) rfl (fun ls hl => ?_)
                        refine lv_goto (tgt := 72) hx hb dX7_worthAt_176 (by decide) ?_
                        exact ih_n_4601 x_4621 x_4612 _ _ _  ⟨(om_83b90de5 hi0_n_4601.1 vx_4621), (om_1ad1f819 cx_4603 gc_4604 vx_4621)⟩ (fold_step (v := x_4612) (part := x_4610) hi1_n_4601 (by have q := cx_4610; rw [show 4 * p0.toNatClampNeg + z_4599.toNatClampNeg = 4 * p0.toNatClampNeg + z_4599.toNatClampNeg from by omega]; exact q) lx_4612 (by first | exact step_k1 (by omega) (by omega) | exact step_q1 (by omega) (by omega)) (by have q1 := ti_cl (x := x_4621) vx_4621 (om_9548a8fd hi0_n_4601.1); have q2 := ti_cl (x := z_4599) rfl hi0_n_4601.1; omega)) (ms_lt hm_n_4601 (om_ed22490e vx_4621) (om_e4be4046 mn_p0.2 cx_4603 gc_4604)) hG hP hD hS (lv_sub hl [0, 1, 4, 5, 6, 7, 8] rfl)
                  · skip
                    have hG := hG.trans (if_pos c_4613)
                    have gc_4613 := ti_eq c_4613 rfl kc_1
                    exfalso; clear hG; omega
            exact key_n_4601 (((4 - (0 : Int32).toInt).toNat) + 1) 0 0 _ _ _  ⟨(om_b1de7dbe kc_0), (om_2dfe280d mn_p0.1 kc_0)⟩ (by first | (have q0 := kc_0; have q1 := kc_1; omega) | decide | assumption | (show _ = startV _; rw [show (fM_r (9 + p0.toNatClampNeg)).toInt = 1 from by omega]; rfl) | (show _ = startV _; rw [show (fM_r (9 + p0.toNatClampNeg)).toInt = 2 from by omega]; rfl) | (show _ = startV _; rw [show (fM_r (9 + p0.toNatClampNeg)).toInt = 3 from by omega]; rfl)) (Nat.lt_add_one _) hG hP hD hS hl
          · skip
            have hG := hG.trans (if_pos c_4598)
            have gc_4598 := ti_eq c_4598 rfl kc_1
            refine lv_ldc hx hb hown (hts _ wd_654) dX7_worthAt_61 ?_
            refine lv_goto (tgt := 67) hx hb dX7_worthAt_63 (by decide) ?_
            refine lv_istore (lv' := [(5, .int (-100000000)), (4, .int x_4594), (0, .ref oM), (1, .ref rQ), (2, .int p0), (3, .int p1)]) hx hb dX7_worthAt_67 hl (by decide) rfl (fun ls hl => ?_)
            refine lv_iconst (v := 0) hx hb dX7_worthAt_69 (by decide) ?_
            refine lv_istore (lv' := [(6, .int 0), (5, .int (-100000000)), (4, .int x_4594), (0, .ref oM), (1, .ref rQ), (2, .int p0), (3, .int p1)]) hx hb dX7_worthAt_70 hl (by decide) rfl (fun ls hl => ?_)
            have hl := lv_sub hl (l' := [(6, .int 0), (5, .int (-100000000)), (4, .int x_4594), (0, .ref oM), (1, .ref rQ), (2, .int p0), (3, .int p1)]) [0, 1, 2, 3, 4, 5, 6] rfl
            have key_n_4624 : ∀ (n_4624 : Nat) (z_4622 : Int32) (z_4623 : Int32) (H : Heap) (locs : List Loc) (ls : Array Slot), (0 ≤ z_4622.toInt ∧ z_4622.toInt ≤ (fM_r (27 + p0.toNatClampNeg)).toInt) → (z_4623 = foldV (fM_r (9 + p0.toNatClampNeg)).toInt (startV (fM_r (9 + p0.toNatClampNeg)).toInt) (VF fM_r fM_told fQ iM_scale n9 p0.toNatClampNeg) (WF fM_r fM_told fQ p0.toNatClampNeg) z_4622.toNatClampNeg) → (4 - z_4622.toInt).toNat < n_4624 → (PX7_worthAt (n9 + 1) iM_night fM_r fM_told iM_scale fQ p0 p1 = HX7_worthAt_1 (PX7_worthAt n9) fM_r fM_told iM_scale iM_night fQ p0 p1 x_4594 n_4624 z_4622 z_4623) → va_P (dC, dI) vwCl [(oc7 oM iM_thrown rM_tape iM_taped iM_size iM_at iM_end iM_token iM_whole iM_nameSize iM_fault iM_place iM_trouble rM_letters iM_failed iM_hasCourt rM_r rM_fresh rM_told rM_read rM_st rM_undone rM_kept iM_undos iM_images rM_fresher iM_fresherSize iM_scale iM_night rM_heardRow rM_cutRow iM_breaths iM_cutMany iM_allBreaths rM_trial rM_words iM_fewestBreaths iM_orderMany iM_orderSum iM_leastOrder rM_often iM_setMany iM_someOf iM_allOf iM_allWeight iM_enoughWeight iM_worthSum iM_firstRest iM_leastDrawn), (arI rM_r kM_r 287 fM_r), (arI rM_told kM_told 90 fM_told), (arI rQ kQ 90 fQ)] H → va_D A [(oc7 oM iM_thrown rM_tape iM_taped iM_size iM_at iM_end iM_token iM_whole iM_nameSize iM_fault iM_place iM_trouble rM_letters iM_failed iM_hasCourt rM_r rM_fresh rM_told rM_read rM_st rM_undone rM_kept iM_undos iM_images rM_fresher iM_fresherSize iM_scale iM_night rM_heardRow rM_cutRow iM_breaths iM_cutMany iM_allBreaths rM_trial rM_words iM_fewestBreaths iM_orderMany iM_orderSum iM_leastOrder rM_often iM_setMany iM_someOf iM_allOf iM_allWeight iM_enoughWeight iM_worthSum iM_firstRest iM_leastDrawn), (arI rM_r kM_r 287 fM_r), (arI rM_told kM_told 90 fM_told), (arI rQ kQ 90 fQ)] → va_S A s.heap H locs → lv_has ls 9 [(6, .int z_4622), (5, .int z_4623), (4, .int x_4594), (0, .ref oM), (1, .ref rQ), (2, .int p0), (3, .int p1)] → W p l e (headSpec (Cond.code yX7_worthAt cX7_worthAt 9 (some .int) :: wG) ({ frames := 1 + (n9 + 1), cells := 0, slots := 0, locals := 10 + 28 * (n9 + 1) })).room s m ([.ref oM, .ref rQ, .int p0, .int p1] : List Value).toArray below meth c H locs 0 0 (MQ below (va_Qi (fun (r : Int32) (_ : Nat) => (True ∧ (r = rval fM_r fM_told fQ iM_scale (n9 + 1) p0.toNatClampNeg)) ∧ PX7_worthAt (n9 + 1) iM_night fM_r fM_told iM_scale fQ p0 p1 = r) (fun (_ : Nat) (t : State) => Bw dC dI A [(oc7 oM iM_thrown rM_tape iM_taped iM_size iM_at iM_end iM_token iM_whole iM_nameSize iM_fault iM_place iM_trouble rM_letters iM_failed iM_hasCourt rM_r rM_fresh rM_told rM_read rM_st rM_undone rM_kept iM_undos iM_images rM_fresher iM_fresherSize iM_scale iM_night rM_heardRow rM_cutRow iM_breaths iM_cutMany iM_allBreaths rM_trial rM_words iM_fewestBreaths iM_orderMany iM_orderSum iM_leastOrder rM_often iM_setMany iM_someOf iM_allOf iM_allWeight iM_enoughWeight iM_worthSum iM_firstRest iM_leastDrawn), (arI rM_r kM_r 287 fM_r), (arI rM_told kM_told 90 fM_told), (arI rQ kQ 90 fQ)] [(kM_r, .int), (kM_told, .int), (kQ, .int)] t) A) ([.ref oM, .ref rQ, .int p0, .int p1] : List Value).toArray s 0 0 A) (F0 m 72 ls []) := by
              intro n_4624
              induction n_4624 with
              | zero => intro z_4622 z_4623 H locs ls hi0_n_4624 hi1_n_4624 hm; exact absurd hm (Nat.not_lt_zero _)
              | succ n_4624 ih_n_4624 =>
                intro z_4622 z_4623 H locs ls hi0_n_4624 hi1_n_4624 hm_n_4624 hG hP hD hS hl
                have hG := hG.trans (HX7_worthAt_1_eq _ _ _ _ _ _ _ _ _ _ _ _)
                refine lv_iload hx hb dX7_worthAt_72 (lv_at hl 0 rfl) ?_
                refine lv_aload_n hx hb dX7_worthAt_74 rfl (lv_at hl 3 rfl) ?_
                refine va_get (D := (dC, dI)) (ci := 7) (v := .ref rM_r) (C := RX7) (T := TX7) (N := 48) hx hb hts inX7 hown hK hP 0 rfl rfl 15 (by decide) (hts _ wd_155) (fun _ h9 => h9) rfl dX7_worthAt_75 ?_
                refine lv_bipush (v := 27) hx hb dX7_worthAt_78 (by decide) ?_
                refine lv_iload_n hx hb dX7_worthAt_80 rfl (lv_at hl 5 rfl) ?_
                refine lv_iadd hx hb dX7_worthAt_81 ?_
                refine lv_topi (fun x_4625 ex_4625 => ?_)
                have hG := hG.trans (lt_eq ex_4625)
                have vx_4625 : x_4625.toInt = p0.toInt + 27 := om_6c48219a (ti_add ex_4625 kc_27 rfl (om_edd3f7cf hk0.1) (om_54ed7536 hdp.1 hdp.2))
                refine va_iald hx hb hK hP 1 0 rfl rfl (ti_in vx_4625 (om_b4b48b7f hk0.1) (om_d6e519bf hdp.1 hdp.2)) dX7_worthAt_82 ?_
                refine lv_topi (fun x_4626 ex_4626 => ?_)
                have hG := hG.trans (lt_eq ex_4626)
                have kx_4626 : (fM_r x_4625.toNatClampNeg).toInt = x_4626.toInt := by rw [ex_4626]
                have cx_4626 : (fM_r (27 + p0.toNatClampNeg)).toInt = x_4626.toInt := by rw [show 27 + p0.toNatClampNeg = x_4625.toNatClampNeg from (om_779a3124 (ti_cl (x := p0) rfl hk0.1) (ti_cl (x := x_4625) vx_4625 (om_b4b48b7f hk0.1)))]; exact kx_4626
                have sx_4626 := r_R.many x_4625.toNatClampNeg (om_ab5399c3 (ti_cl (x := x_4625) vx_4625 (om_b4b48b7f hk0.1)) hk0.1) (om_3b68d876 (ti_cl (x := x_4625) vx_4625 (om_b4b48b7f hk0.1)) hk0.2 s_nodes.2)
                refine lv_icmp_ge (tgt := 179) hx hb dX7_worthAt_83 (by decide) (fun c_4627 => ?_) (fun c_4627 => ?_)
                · skip
                  have hG := hG.trans (if_pos c_4627)
                  have gc_4627 := ti_le c_4627 rfl rfl
                  refine lv_iload hx hb dX7_worthAt_179 (lv_at hl 2 rfl) ?_
                  refine lv_iconst (v := 3) hx hb dX7_worthAt_181 (by decide) ?_
                  refine lv_icmp_ne (tgt := 196) hx hb dX7_worthAt_182 (by decide) (fun c_4628 => ?_) (fun c_4628 => ?_)
                  · skip
                    have hG := hG.trans (if_neg c_4628)
                    have gc_4628 := ti_ne c_4628 rfl kc_3
                    refine lv_iload hx hb dX7_worthAt_196 (lv_at hl 1 rfl) ?_
                    exact wq_i hx hb hr 0 ⟨⟨trivial, (rval_fold (by omega) (by omega) hi1_n_4624 (by have q1 := ti_cl (x := z_4622) rfl (by omega); omega))⟩, hG⟩ (fun t ht hW => Bw.to hP hD hK ht hW) hS dX7_worthAt_198 hlocks
                  · skip
                    have hG := hG.trans (if_pos c_4628)
                    have gc_4628 := ti_eq c_4628 rfl kc_3
                    exact ((om_3873ea92 gc_4598 gc_4628)).elim
                · skip
                  have hG := hG.trans (if_neg c_4627)
                  have gc_4627 := ti_nle c_4627 rfl rfl
                  refine lv_aload_n hx hb dX7_worthAt_86 rfl (lv_at hl 4 rfl) ?_
                  refine lv_iconst (v := 4) hx hb dX7_worthAt_87 (by decide) ?_
                  refine lv_iload_n hx hb dX7_worthAt_88 rfl (lv_at hl 5 rfl) ?_
                  refine lv_imul hx hb dX7_worthAt_89 ?_
                  refine lv_topi (fun x_4629 ex_4629 => ?_)
                  have hG := hG.trans (lt_eq ex_4629)
                  have vx_4629 : x_4629.toInt = 4 * p0.toInt := ti_mul ex_4629 kc_4 rfl (om_56b74365 hk0.1) (om_1e4644e1 hdp.1 hdp.2)
                  refine lv_iload hx hb dX7_worthAt_90 (lv_at hl 0 rfl) ?_
                  refine lv_iadd hx hb dX7_worthAt_92 ?_
                  refine lv_topi (fun x_4630 ex_4630 => ?_)
                  have hG := hG.trans (lt_eq ex_4630)
                  have vx_4630 : x_4630.toInt = 4 * p0.toInt + z_4622.toInt := om_5d0caf0f (ti_add ex_4630 vx_4629 rfl (om_056a216f hk0.1 hi0_n_4624.1) (om_9fd6b7da hdp.1 hdp.2 mn_p0.2 hi0_n_4624.2))
                  refine va_iald hx hb hK hP 3 2 rfl rfl (ti_in vx_4630 (om_fc2812d4 hk0.1 hi0_n_4624.1) (om_01db022b hk0.2 s_nodes.2 mn_p0.2 hi0_n_4624.2)) dX7_worthAt_93 ?_
                  refine lv_topi (fun x_4631 ex_4631 => ?_)
                  have hG := hG.trans (lt_eq ex_4631)
                  have kx_4631 : (fQ x_4630.toNatClampNeg).toInt = x_4631.toInt := by rw [ex_4631]
                  have cx_4631 : (fQ (4 * p0.toNatClampNeg + z_4622.toNatClampNeg)).toInt = x_4631.toInt := by rw [show 4 * p0.toNatClampNeg + z_4622.toNatClampNeg = x_4630.toNatClampNeg from (om_4de36627 (ti_cl (x := p0) rfl hk0.1) (ti_cl (x := z_4622) rfl hi0_n_4624.1) (ti_cl (x := x_4630) vx_4630 (om_fc2812d4 hk0.1 hi0_n_4624.1)))]; exact kx_4631
                  have wx_4631 : 0 ≤ x_4631.toInt ∧ x_4631.toInt < p0.toInt := row_lt r_Q (i := z_4622.toNatClampNeg) (ti_cl (x := p0) rfl hk0.1) (ti_cl (x := z_4622) rfl hi0_n_4624.1) hk0.2 (om_644b432c cx_4626 gc_4627) (om_24300f0a (ti_cl (x := p0) rfl hk0.1) (ti_cl (x := z_4622) rfl hi0_n_4624.1)) cx_4631
                  refine lv_istore (lv' := [(7, .int x_4631), (6, .int z_4622), (5, .int z_4623), (4, .int x_4594), (0, .ref oM), (1, .ref rQ), (2, .int p0), (3, .int p1)]) hx hb dX7_worthAt_94 hl (by decide) rfl (fun ls hl => ?_)
                  refine lv_aload_n hx hb dX7_worthAt_96 rfl (lv_at hl 4 rfl) ?_
                  refine lv_aload_n hx hb dX7_worthAt_97 rfl (lv_at hl 5 rfl) ?_
                  refine lv_iload hx hb dX7_worthAt_98 (lv_at hl 0 rfl) ?_
                  refine lv_iload_n hx hb dX7_worthAt_100 rfl (lv_at hl 7 rfl) ?_
                  refine lv_iconst (v := 1) hx hb dX7_worthAt_101 (by decide) ?_
                  refine lv_iadd hx hb dX7_worthAt_102 ?_
                  refine lv_topi (fun x_4632 ex_4632 => ?_)
                  have hG := hG.trans (lt_eq ex_4632)
                  have vx_4632 : x_4632.toInt = p1.toInt + 1 := ti_add ex_4632 rfl kc_1 (om_4e4fce7e hdp.1) (om_994f3184 hk0.1 hdp.2)
                  have hFc := va_freeI hD hS hA
                  refine va_calli (va_runV (As := [.ref rQ, .int x_4631, .int x_4632]) (rest := []) ⟨hx, hb, hml, hown, hts⟩ (ih9 _ oM iM_thrown rM_tape iM_taped iM_size iM_at iM_end iM_token iM_whole iM_nameSize iM_fault iM_place iM_trouble rM_letters iM_failed iM_hasCourt rM_r fM_r kM_r rM_fresh rM_told fM_told kM_told rM_read rM_st rM_undone rM_kept iM_undos iM_images rM_fresher iM_fresherSize iM_scale iM_night rM_heardRow rM_cutRow iM_breaths iM_cutMany iM_allBreaths rM_trial rM_words iM_fewestBreaths iM_orderMany iM_orderSum iM_leastOrder rM_often iM_setMany iM_someOf iM_allOf iM_allWeight iM_enoughWeight iM_worthSum iM_firstRest iM_leastDrawn rQ fQ kQ x_4631 x_4632 b_iM_taped b_iM_size b_iM_end b_iM_failed b_iM_hasCourt b_iM_undos b_iM_images b_iM_scale b_iM_breaths b_iM_cutMany (by assumption) (by assumption) (by assumption) (by assumption) ⟨wx_4631.1, (om_90a71968 hk0.2 wx_4631.2)⟩ hnt ⟨(om_83b90de5 hdp.1 vx_4632), (om_a06ed41a hdp.2 wx_4631.2 vx_4632)⟩ (by first | assumption | (have q0 := kc_0; have q1 := kc_1; first | exact ⟨by omega, by omega⟩ | omega) | decide | (intro h; exact absurd h (by decide)))) (cwV 3 hts (wd_V wd_649 wd_650 wd_651 wd_5 (wd_c wd_652)) rfl rfl rfl (by decide +kernel) ⟨(om_70783806 n9), (om_5b028cd8 n9)⟩) ⟨Pw.fb, recvX7 hK hP (q0 := 0) rfl, fun U hU hW => Pw.to hP hD hK hE hS hFc hU hW⟩ rfl rfl hl.1 rfl (lv_room (Nat.le_of_ble_eq_true rfl)) dX7_worthAt_103 ⟨Nat.le_of_ble_eq_true rfl, Nat.le_of_ble_eq_true rfl⟩) hS (fun q _ h => hFc q h) hFc (fun r u t H locs ht hvm hw hB hz1 hk1 hS => ?_)
                  have hru9 := hw.2
                  have hw := hw.1
                  obtain ⟨hP, hD⟩ := Bw.goA (ws' := [(oc7 oM iM_thrown rM_tape iM_taped iM_size iM_at iM_end iM_token iM_whole iM_nameSize iM_fault iM_place iM_trouble rM_letters iM_failed iM_hasCourt rM_r rM_fresh rM_told rM_read rM_st rM_undone rM_kept iM_undos iM_images rM_fresher iM_fresherSize iM_scale iM_night rM_heardRow rM_cutRow iM_breaths iM_cutMany iM_allBreaths rM_trial rM_words iM_fewestBreaths iM_orderMany iM_orderSum iM_leastOrder rM_often iM_setMany iM_someOf iM_allOf iM_allWeight iM_enoughWeight iM_worthSum iM_firstRest iM_leastDrawn), (arI rM_r kM_r 287 fM_r), (arI rM_told kM_told 90 fM_told), (arI rQ kQ 90 fQ)]) hB rfl ht hFc rfl
                  clear hz1 hk1 hvm ht hB
                  obtain ⟨x_4633, rfl⟩ : ∃ z, z = r := ⟨_, rfl⟩
                  have hG := hG.trans (lt_eq hru9.symm)
                  have lx_4633 := hw.2
                  refine lv_istore (lv' := [(8, .int x_4633), (7, .int x_4631), (6, .int z_4622), (5, .int z_4623), (4, .int x_4594), (0, .ref oM), (1, .ref rQ), (2, .int p0), (3, .int p1)]) hx hb dX7_worthAt_106 hl (by decide) rfl (fun ls hl => ?_)
                  refine lv_iload hx hb dX7_worthAt_108 (lv_at hl 4 rfl) ?_
                  refine lv_iconst (v := 1) hx hb dX7_worthAt_110 (by decide) ?_
                  refine lv_icmp_ne (tgt := 133) hx hb dX7_worthAt_111 (by decide) (fun c_4634 => ?_) (fun c_4634 => ?_)
                  · skip
                    have hG := hG.trans (if_neg c_4634)
                    have gc_4634 := ti_ne c_4634 rfl kc_1
                    exact (om_4c66930a gc_4634 gc_4598).elim
                  · skip
                    have hG := hG.trans (if_pos c_4634)
                    have gc_4634 := ti_eq c_4634 rfl kc_1
                    refine lv_iload hx hb dX7_worthAt_114 (lv_at hl 0 rfl) ?_
                    refine lv_iload hx hb dX7_worthAt_116 (lv_at hl 3 rfl) ?_
                    refine lv_icmp_le (tgt := 126) hx hb dX7_worthAt_118 (by decide) (fun c_4635 => ?_) (fun c_4635 => ?_)
                    · skip
                      have hG := hG.trans (if_pos c_4635)
                      have gc_4635 := ti_le c_4635 rfl rfl
                      refine lv_iload hx hb dX7_worthAt_126 (lv_at hl 3 rfl) ?_
                      refine lv_istore (lv' := [(5, .int z_4623), (8, .int x_4633), (7, .int x_4631), (6, .int z_4622), (4, .int x_4594), (0, .ref oM), (1, .ref rQ), (2, .int p0), (3, .int p1)]) hx hb dX7_worthAt_128 hl (by decide) rfl (fun ls hl => ?_)
                      refine lv_goto (tgt := 173) hx hb dX7_worthAt_130 (by decide) ?_
                      obtain ⟨x_4636, ex_4636⟩ : ∃ z : Int32, z = z_4622 + Int32.ofInt 1 := ⟨_, rfl⟩
                      have hG := hG.trans (lt_eq ex_4636)
                      have vx_4636 : x_4636.toInt = z_4622.toInt + 1 := ti_add (y := 1) ex_4636 rfl kc_1 (om_4e4fce7e hi0_n_4624.1) (om_d6392c09 mn_p0.2 hi0_n_4624.2)
                      refine lv_iinc (v := x_4636) (lv' := [(6, .int x_4636), (5, .int z_4623), (8, .int x_4633), (7, .int x_4631), (4, .int x_4594), (0, .ref oM), (1, .ref rQ), (2, .int p0), (3, .int p1)]) hx hb dX7_worthAt_173 hl (k := 3) rfl ex_4636.symm (by decide) rfl (fun ls hl => ?_)
                      refine lv_goto (tgt := 72) hx hb dX7_worthAt_176 (by decide) ?_
                      exact ih_n_4624 x_4636 z_4623 _ _ _  ⟨(om_83b90de5 hi0_n_4624.1 vx_4636), (om_1ad1f819 cx_4626 gc_4627 vx_4636)⟩ (fold_step (v := x_4633) (part := x_4631) hi1_n_4624 (by have q := cx_4631; rw [show 4 * p0.toNatClampNeg + z_4622.toNatClampNeg = 4 * p0.toNatClampNeg + z_4622.toNatClampNeg from by omega]; exact q) lx_4633 (by first | exact step_k0 (by omega) (by omega) | exact step_q0 (by omega) (by omega)) (by have q1 := ti_cl (x := x_4636) vx_4636 (om_9548a8fd hi0_n_4624.1); have q2 := ti_cl (x := z_4622) rfl hi0_n_4624.1; omega)) (ms_lt hm_n_4624 (om_ed22490e vx_4636) (om_e4be4046 mn_p0.2 cx_4626 gc_4627)) hG hP hD hS (lv_sub hl [0, 1, 4, 5, 6, 7, 8] rfl)
                    · skip
                      have hG := hG.trans (if_neg c_4635)
                      have gc_4635 := ti_nle c_4635 rfl rfl
                      refine lv_iload hx hb dX7_worthAt_121 (lv_at hl 0 rfl) ?_
                      refine lv_goto (tgt := 128) hx hb dX7_worthAt_123 (by decide) ?_
                      refine lv_istore (lv' := [(5, .int x_4633), (8, .int x_4633), (7, .int x_4631), (6, .int z_4622), (4, .int x_4594), (0, .ref oM), (1, .ref rQ), (2, .int p0), (3, .int p1)]) hx hb dX7_worthAt_128 hl (by decide) rfl (fun ls hl => ?_)
                      refine lv_goto (tgt := 173) hx hb dX7_worthAt_130 (by decide) ?_
                      obtain ⟨x_4637, ex_4637⟩ : ∃ z : Int32, z = z_4622 + Int32.ofInt 1 := ⟨_, rfl⟩
                      have hG := hG.trans (lt_eq ex_4637)
                      have vx_4637 : x_4637.toInt = z_4622.toInt + 1 := ti_add (y := 1) ex_4637 rfl kc_1 (om_4e4fce7e hi0_n_4624.1) (om_d6392c09 mn_p0.2 hi0_n_4624.2)
                      refine lv_iinc (v := x_4637) (lv' := [(6, .int x_4637), (5, .int x_4633), (8, .int x_4633), (7, .int x_4631), (4, .int x_4594), (0, .ref oM), (1, .ref rQ), (2, .int p0), (3, .int p1)]) hx hb dX7_worthAt_173 hl (k := 3) rfl ex_4637.symm (by decide) rfl (fun ls hl => ?_)
                      refine lv_goto (tgt := 72) hx hb dX7_worthAt_176 (by decide) ?_
                      exact ih_n_4624 x_4637 x_4633 _ _ _  ⟨(om_83b90de5 hi0_n_4624.1 vx_4637), (om_1ad1f819 cx_4626 gc_4627 vx_4637)⟩ (fold_step (v := x_4633) (part := x_4631) hi1_n_4624 (by have q := cx_4631; rw [show 4 * p0.toNatClampNeg + z_4622.toNatClampNeg = 4 * p0.toNatClampNeg + z_4622.toNatClampNeg from by omega]; exact q) lx_4633 (by first | exact step_k1 (by omega) (by omega) | exact step_q1 (by omega) (by omega)) (by have q1 := ti_cl (x := x_4637) vx_4637 (om_9548a8fd hi0_n_4624.1); have q2 := ti_cl (x := z_4622) rfl hi0_n_4624.1; omega)) (ms_lt hm_n_4624 (om_ed22490e vx_4637) (om_e4be4046 mn_p0.2 cx_4626 gc_4627)) hG hP hD hS (lv_sub hl [0, 1, 4, 5, 6, 7, 8] rfl)
            exact key_n_4624 (((4 - (0 : Int32).toInt).toNat) + 1) 0 (-100000000) _ _ _  ⟨(om_b1de7dbe kc_0), (om_2dfe280d mn_p0.1 kc_0)⟩ (by first | (have q0 := kc_m100000000; have q1 := kc_0; have q2 := kc_1; omega) | decide | assumption | (show _ = startV _; rw [show (fM_r (9 + p0.toNatClampNeg)).toInt = 1 from by omega]; rfl) | (show _ = startV _; rw [show (fM_r (9 + p0.toNatClampNeg)).toInt = 2 from by omega]; rfl) | (show _ = startV _; rw [show (fM_r (9 + p0.toNatClampNeg)).toInt = 3 from by omega]; rfl)) (Nat.lt_add_one _) hG hP hD hS hl
        · skip
          have hG := hG.trans (if_pos c_4597)
          have gc_4597 := ti_eq c_4597 rfl kc_2
          refine lv_ldc hx hb hown (hts _ wd_653) dX7_worthAt_50 ?_
          refine lv_goto (tgt := 67) hx hb dX7_worthAt_52 (by decide) ?_
          refine lv_istore (lv' := [(5, .int 100000000), (4, .int x_4594), (0, .ref oM), (1, .ref rQ), (2, .int p0), (3, .int p1)]) hx hb dX7_worthAt_67 hl (by decide) rfl (fun ls hl => ?_)
          refine lv_iconst (v := 0) hx hb dX7_worthAt_69 (by decide) ?_
          refine lv_istore (lv' := [(6, .int 0), (5, .int 100000000), (4, .int x_4594), (0, .ref oM), (1, .ref rQ), (2, .int p0), (3, .int p1)]) hx hb dX7_worthAt_70 hl (by decide) rfl (fun ls hl => ?_)
          have hl := lv_sub hl (l' := [(6, .int 0), (5, .int 100000000), (4, .int x_4594), (0, .ref oM), (1, .ref rQ), (2, .int p0), (3, .int p1)]) [0, 1, 2, 3, 4, 5, 6] rfl
          have key_n_4640 : ∀ (n_4640 : Nat) (z_4638 : Int32) (z_4639 : Int32) (H : Heap) (locs : List Loc) (ls : Array Slot), (0 ≤ z_4638.toInt ∧ z_4638.toInt ≤ (fM_r (27 + p0.toNatClampNeg)).toInt) → (z_4639 = foldV (fM_r (9 + p0.toNatClampNeg)).toInt (startV (fM_r (9 + p0.toNatClampNeg)).toInt) (VF fM_r fM_told fQ iM_scale n9 p0.toNatClampNeg) (WF fM_r fM_told fQ p0.toNatClampNeg) z_4638.toNatClampNeg) → (4 - z_4638.toInt).toNat < n_4640 → (PX7_worthAt (n9 + 1) iM_night fM_r fM_told iM_scale fQ p0 p1 = HX7_worthAt_0 (PX7_worthAt n9) fM_r fM_told iM_scale iM_night fQ p0 p1 x_4594 n_4640 z_4638 z_4639) → va_P (dC, dI) vwCl [(oc7 oM iM_thrown rM_tape iM_taped iM_size iM_at iM_end iM_token iM_whole iM_nameSize iM_fault iM_place iM_trouble rM_letters iM_failed iM_hasCourt rM_r rM_fresh rM_told rM_read rM_st rM_undone rM_kept iM_undos iM_images rM_fresher iM_fresherSize iM_scale iM_night rM_heardRow rM_cutRow iM_breaths iM_cutMany iM_allBreaths rM_trial rM_words iM_fewestBreaths iM_orderMany iM_orderSum iM_leastOrder rM_often iM_setMany iM_someOf iM_allOf iM_allWeight iM_enoughWeight iM_worthSum iM_firstRest iM_leastDrawn), (arI rM_r kM_r 287 fM_r), (arI rM_told kM_told 90 fM_told), (arI rQ kQ 90 fQ)] H → va_D A [(oc7 oM iM_thrown rM_tape iM_taped iM_size iM_at iM_end iM_token iM_whole iM_nameSize iM_fault iM_place iM_trouble rM_letters iM_failed iM_hasCourt rM_r rM_fresh rM_told rM_read rM_st rM_undone rM_kept iM_undos iM_images rM_fresher iM_fresherSize iM_scale iM_night rM_heardRow rM_cutRow iM_breaths iM_cutMany iM_allBreaths rM_trial rM_words iM_fewestBreaths iM_orderMany iM_orderSum iM_leastOrder rM_often iM_setMany iM_someOf iM_allOf iM_allWeight iM_enoughWeight iM_worthSum iM_firstRest iM_leastDrawn), (arI rM_r kM_r 287 fM_r), (arI rM_told kM_told 90 fM_told), (arI rQ kQ 90 fQ)] → va_S A s.heap H locs → lv_has ls 9 [(6, .int z_4638), (5, .int z_4639), (4, .int x_4594), (0, .ref oM), (1, .ref rQ), (2, .int p0), (3, .int p1)] → W p l e (headSpec (Cond.code yX7_worthAt cX7_worthAt 9 (some .int) :: wG) ({ frames := 1 + (n9 + 1), cells := 0, slots := 0, locals := 10 + 28 * (n9 + 1) })).room s m ([.ref oM, .ref rQ, .int p0, .int p1] : List Value).toArray below meth c H locs 0 0 (MQ below (va_Qi (fun (r : Int32) (_ : Nat) => (True ∧ (r = rval fM_r fM_told fQ iM_scale (n9 + 1) p0.toNatClampNeg)) ∧ PX7_worthAt (n9 + 1) iM_night fM_r fM_told iM_scale fQ p0 p1 = r) (fun (_ : Nat) (t : State) => Bw dC dI A [(oc7 oM iM_thrown rM_tape iM_taped iM_size iM_at iM_end iM_token iM_whole iM_nameSize iM_fault iM_place iM_trouble rM_letters iM_failed iM_hasCourt rM_r rM_fresh rM_told rM_read rM_st rM_undone rM_kept iM_undos iM_images rM_fresher iM_fresherSize iM_scale iM_night rM_heardRow rM_cutRow iM_breaths iM_cutMany iM_allBreaths rM_trial rM_words iM_fewestBreaths iM_orderMany iM_orderSum iM_leastOrder rM_often iM_setMany iM_someOf iM_allOf iM_allWeight iM_enoughWeight iM_worthSum iM_firstRest iM_leastDrawn), (arI rM_r kM_r 287 fM_r), (arI rM_told kM_told 90 fM_told), (arI rQ kQ 90 fQ)] [(kM_r, .int), (kM_told, .int), (kQ, .int)] t) A) ([.ref oM, .ref rQ, .int p0, .int p1] : List Value).toArray s 0 0 A) (F0 m 72 ls []) := by
            intro n_4640
            induction n_4640 with
            | zero => intro z_4638 z_4639 H locs ls hi0_n_4640 hi1_n_4640 hm; exact absurd hm (Nat.not_lt_zero _)
            | succ n_4640 ih_n_4640 =>
              intro z_4638 z_4639 H locs ls hi0_n_4640 hi1_n_4640 hm_n_4640 hG hP hD hS hl
              have hG := hG.trans (HX7_worthAt_0_eq _ _ _ _ _ _ _ _ _ _ _ _)
              refine lv_iload hx hb dX7_worthAt_72 (lv_at hl 0 rfl) ?_
              refine lv_aload_n hx hb dX7_worthAt_74 rfl (lv_at hl 3 rfl) ?_
              refine va_get (D := (dC, dI)) (ci := 7) (v := .ref rM_r) (C := RX7) (T := TX7) (N := 48) hx hb hts inX7 hown hK hP 0 rfl rfl 15 (by decide) (hts _ wd_155) (fun _ h9 => h9) rfl dX7_worthAt_75 ?_
              refine lv_bipush (v := 27) hx hb dX7_worthAt_78 (by decide) ?_
              refine lv_iload_n hx hb dX7_worthAt_80 rfl (lv_at hl 5 rfl) ?_
              refine lv_iadd hx hb dX7_worthAt_81 ?_
              refine lv_topi (fun x_4641 ex_4641 => ?_)
              have hG := hG.trans (lt_eq ex_4641)
              have vx_4641 : x_4641.toInt = p0.toInt + 27 := om_6c48219a (ti_add ex_4641 kc_27 rfl (om_edd3f7cf hk0.1) (om_54ed7536 hdp.1 hdp.2))
              refine va_iald hx hb hK hP 1 0 rfl rfl (ti_in vx_4641 (om_b4b48b7f hk0.1) (om_d6e519bf hdp.1 hdp.2)) dX7_worthAt_82 ?_
              refine lv_topi (fun x_4642 ex_4642 => ?_)
              have hG := hG.trans (lt_eq ex_4642)
              have kx_4642 : (fM_r x_4641.toNatClampNeg).toInt = x_4642.toInt := by rw [ex_4642]
              have cx_4642 : (fM_r (27 + p0.toNatClampNeg)).toInt = x_4642.toInt := by rw [show 27 + p0.toNatClampNeg = x_4641.toNatClampNeg from (om_779a3124 (ti_cl (x := p0) rfl hk0.1) (ti_cl (x := x_4641) vx_4641 (om_b4b48b7f hk0.1)))]; exact kx_4642
              have sx_4642 := r_R.many x_4641.toNatClampNeg (om_ab5399c3 (ti_cl (x := x_4641) vx_4641 (om_b4b48b7f hk0.1)) hk0.1) (om_3b68d876 (ti_cl (x := x_4641) vx_4641 (om_b4b48b7f hk0.1)) hk0.2 s_nodes.2)
              refine lv_icmp_ge (tgt := 179) hx hb dX7_worthAt_83 (by decide) (fun c_4643 => ?_) (fun c_4643 => ?_)
              · skip
                have hG := hG.trans (if_pos c_4643)
                have gc_4643 := ti_le c_4643 rfl rfl
                refine lv_iload hx hb dX7_worthAt_179 (lv_at hl 2 rfl) ?_
                refine lv_iconst (v := 3) hx hb dX7_worthAt_181 (by decide) ?_
                refine lv_icmp_ne (tgt := 196) hx hb dX7_worthAt_182 (by decide) (fun c_4644 => ?_) (fun c_4644 => ?_)
                · skip
                  have hG := hG.trans (if_neg c_4644)
                  have gc_4644 := ti_ne c_4644 rfl kc_3
                  refine lv_iload hx hb dX7_worthAt_196 (lv_at hl 1 rfl) ?_
                  exact wq_i hx hb hr 0 ⟨⟨trivial, (rval_fold (by omega) (by omega) hi1_n_4640 (by have q1 := ti_cl (x := z_4638) rfl (by omega); omega))⟩, hG⟩ (fun t ht hW => Bw.to hP hD hK ht hW) hS dX7_worthAt_198 hlocks
                · skip
                  have hG := hG.trans (if_pos c_4644)
                  have gc_4644 := ti_eq c_4644 rfl kc_3
                  exact ((om_51643139 gc_4597 gc_4644)).elim
              · skip
                have hG := hG.trans (if_neg c_4643)
                have gc_4643 := ti_nle c_4643 rfl rfl
                refine lv_aload_n hx hb dX7_worthAt_86 rfl (lv_at hl 4 rfl) ?_
                refine lv_iconst (v := 4) hx hb dX7_worthAt_87 (by decide) ?_
                refine lv_iload_n hx hb dX7_worthAt_88 rfl (lv_at hl 5 rfl) ?_
                refine lv_imul hx hb dX7_worthAt_89 ?_
                refine lv_topi (fun x_4645 ex_4645 => ?_)
                have hG := hG.trans (lt_eq ex_4645)
                have vx_4645 : x_4645.toInt = 4 * p0.toInt := ti_mul ex_4645 kc_4 rfl (om_56b74365 hk0.1) (om_1e4644e1 hdp.1 hdp.2)
                refine lv_iload hx hb dX7_worthAt_90 (lv_at hl 0 rfl) ?_
                refine lv_iadd hx hb dX7_worthAt_92 ?_
                refine lv_topi (fun x_4646 ex_4646 => ?_)
                have hG := hG.trans (lt_eq ex_4646)
                have vx_4646 : x_4646.toInt = 4 * p0.toInt + z_4638.toInt := om_5d0caf0f (ti_add ex_4646 vx_4645 rfl (om_056a216f hk0.1 hi0_n_4640.1) (om_9fd6b7da hdp.1 hdp.2 mn_p0.2 hi0_n_4640.2))
                refine va_iald hx hb hK hP 3 2 rfl rfl (ti_in vx_4646 (om_fc2812d4 hk0.1 hi0_n_4640.1) (om_01db022b hk0.2 s_nodes.2 mn_p0.2 hi0_n_4640.2)) dX7_worthAt_93 ?_
                refine lv_topi (fun x_4647 ex_4647 => ?_)
                have hG := hG.trans (lt_eq ex_4647)
                have kx_4647 : (fQ x_4646.toNatClampNeg).toInt = x_4647.toInt := by rw [ex_4647]
                have cx_4647 : (fQ (4 * p0.toNatClampNeg + z_4638.toNatClampNeg)).toInt = x_4647.toInt := by rw [show 4 * p0.toNatClampNeg + z_4638.toNatClampNeg = x_4646.toNatClampNeg from (om_4de36627 (ti_cl (x := p0) rfl hk0.1) (ti_cl (x := z_4638) rfl hi0_n_4640.1) (ti_cl (x := x_4646) vx_4646 (om_fc2812d4 hk0.1 hi0_n_4640.1)))]; exact kx_4647
                have wx_4647 : 0 ≤ x_4647.toInt ∧ x_4647.toInt < p0.toInt := row_lt r_Q (i := z_4638.toNatClampNeg) (ti_cl (x := p0) rfl hk0.1) (ti_cl (x := z_4638) rfl hi0_n_4640.1) hk0.2 (om_644b432c cx_4642 gc_4643) (om_24300f0a (ti_cl (x := p0) rfl hk0.1) (ti_cl (x := z_4638) rfl hi0_n_4640.1)) cx_4647
                refine lv_istore (lv' := [(7, .int x_4647), (6, .int z_4638), (5, .int z_4639), (4, .int x_4594), (0, .ref oM), (1, .ref rQ), (2, .int p0), (3, .int p1)]) hx hb dX7_worthAt_94 hl (by decide) rfl (fun ls hl => ?_)
                refine lv_aload_n hx hb dX7_worthAt_96 rfl (lv_at hl 4 rfl) ?_
                refine lv_aload_n hx hb dX7_worthAt_97 rfl (lv_at hl 5 rfl) ?_
                refine lv_iload hx hb dX7_worthAt_98 (lv_at hl 0 rfl) ?_
                refine lv_iload_n hx hb dX7_worthAt_100 rfl (lv_at hl 7 rfl) ?_
                refine lv_iconst (v := 1) hx hb dX7_worthAt_101 (by decide) ?_
                refine lv_iadd hx hb dX7_worthAt_102 ?_
                refine lv_topi (fun x_4648 ex_4648 => ?_)
                have hG := hG.trans (lt_eq ex_4648)
                have vx_4648 : x_4648.toInt = p1.toInt + 1 := ti_add ex_4648 rfl kc_1 (om_4e4fce7e hdp.1) (om_994f3184 hk0.1 hdp.2)
                have hFc := va_freeI hD hS hA
                refine va_calli (va_runV (As := [.ref rQ, .int x_4647, .int x_4648]) (rest := []) ⟨hx, hb, hml, hown, hts⟩ (ih9 _ oM iM_thrown rM_tape iM_taped iM_size iM_at iM_end iM_token iM_whole iM_nameSize iM_fault iM_place iM_trouble rM_letters iM_failed iM_hasCourt rM_r fM_r kM_r rM_fresh rM_told fM_told kM_told rM_read rM_st rM_undone rM_kept iM_undos iM_images rM_fresher iM_fresherSize iM_scale iM_night rM_heardRow rM_cutRow iM_breaths iM_cutMany iM_allBreaths rM_trial rM_words iM_fewestBreaths iM_orderMany iM_orderSum iM_leastOrder rM_often iM_setMany iM_someOf iM_allOf iM_allWeight iM_enoughWeight iM_worthSum iM_firstRest iM_leastDrawn rQ fQ kQ x_4647 x_4648 b_iM_taped b_iM_size b_iM_end b_iM_failed b_iM_hasCourt b_iM_undos b_iM_images b_iM_scale b_iM_breaths b_iM_cutMany (by assumption) (by assumption) (by assumption) (by assumption) ⟨wx_4647.1, (om_90a71968 hk0.2 wx_4647.2)⟩ hnt ⟨(om_83b90de5 hdp.1 vx_4648), (om_a06ed41a hdp.2 wx_4647.2 vx_4648)⟩ (by first | assumption | (have q0 := kc_0; have q1 := kc_1; first | exact ⟨by omega, by omega⟩ | omega) | decide | (intro h; exact absurd h (by decide)))) (cwV 3 hts (wd_V wd_649 wd_650 wd_651 wd_5 (wd_c wd_652)) rfl rfl rfl (by decide +kernel) ⟨(om_70783806 n9), (om_5b028cd8 n9)⟩) ⟨Pw.fb, recvX7 hK hP (q0 := 0) rfl, fun U hU hW => Pw.to hP hD hK hE hS hFc hU hW⟩ rfl rfl hl.1 rfl (lv_room (Nat.le_of_ble_eq_true rfl)) dX7_worthAt_103 ⟨Nat.le_of_ble_eq_true rfl, Nat.le_of_ble_eq_true rfl⟩) hS (fun q _ h => hFc q h) hFc (fun r u t H locs ht hvm hw hB hz1 hk1 hS => ?_)
                have hru9 := hw.2
                have hw := hw.1
                obtain ⟨hP, hD⟩ := Bw.goA (ws' := [(oc7 oM iM_thrown rM_tape iM_taped iM_size iM_at iM_end iM_token iM_whole iM_nameSize iM_fault iM_place iM_trouble rM_letters iM_failed iM_hasCourt rM_r rM_fresh rM_told rM_read rM_st rM_undone rM_kept iM_undos iM_images rM_fresher iM_fresherSize iM_scale iM_night rM_heardRow rM_cutRow iM_breaths iM_cutMany iM_allBreaths rM_trial rM_words iM_fewestBreaths iM_orderMany iM_orderSum iM_leastOrder rM_often iM_setMany iM_someOf iM_allOf iM_allWeight iM_enoughWeight iM_worthSum iM_firstRest iM_leastDrawn), (arI rM_r kM_r 287 fM_r), (arI rM_told kM_told 90 fM_told), (arI rQ kQ 90 fQ)]) hB rfl ht hFc rfl
                clear hz1 hk1 hvm ht hB
                obtain ⟨x_4649, rfl⟩ : ∃ z, z = r := ⟨_, rfl⟩
                have hG := hG.trans (lt_eq hru9.symm)
                have lx_4649 := hw.2
                refine lv_istore (lv' := [(8, .int x_4649), (7, .int x_4647), (6, .int z_4638), (5, .int z_4639), (4, .int x_4594), (0, .ref oM), (1, .ref rQ), (2, .int p0), (3, .int p1)]) hx hb dX7_worthAt_106 hl (by decide) rfl (fun ls hl => ?_)
                refine lv_iload hx hb dX7_worthAt_108 (lv_at hl 4 rfl) ?_
                refine lv_iconst (v := 1) hx hb dX7_worthAt_110 (by decide) ?_
                refine lv_icmp_ne (tgt := 133) hx hb dX7_worthAt_111 (by decide) (fun c_4650 => ?_) (fun c_4650 => ?_)
                · skip
                  have hG := hG.trans (if_neg c_4650)
                  have gc_4650 := ti_ne c_4650 rfl kc_1
                  refine lv_iload hx hb dX7_worthAt_133 (lv_at hl 4 rfl) ?_
                  refine lv_iconst (v := 2) hx hb dX7_worthAt_135 (by decide) ?_
                  refine lv_icmp_ne (tgt := 158) hx hb dX7_worthAt_136 (by decide) (fun c_4651 => ?_) (fun c_4651 => ?_)
                  · skip
                    have hG := hG.trans (if_neg c_4651)
                    have gc_4651 := ti_ne c_4651 rfl kc_2
                    exact (om_d91d710b gc_4651 gc_4597).elim
                  · skip
                    have hG := hG.trans (if_pos c_4651)
                    have gc_4651 := ti_eq c_4651 rfl kc_2
                    refine lv_iload hx hb dX7_worthAt_139 (lv_at hl 0 rfl) ?_
                    refine lv_iload hx hb dX7_worthAt_141 (lv_at hl 3 rfl) ?_
                    refine lv_icmp_ge (tgt := 151) hx hb dX7_worthAt_143 (by decide) (fun c_4652 => ?_) (fun c_4652 => ?_)
                    · skip
                      have hG := hG.trans (if_pos c_4652)
                      have gc_4652 := ti_le c_4652 rfl rfl
                      refine lv_iload hx hb dX7_worthAt_151 (lv_at hl 3 rfl) ?_
                      refine lv_istore (lv' := [(5, .int z_4639), (8, .int x_4649), (7, .int x_4647), (6, .int z_4638), (4, .int x_4594), (0, .ref oM), (1, .ref rQ), (2, .int p0), (3, .int p1)]) hx hb dX7_worthAt_153 hl (by decide) rfl (fun ls hl => ?_)
                      refine lv_goto (tgt := 173) hx hb dX7_worthAt_155 (by decide) ?_
                      obtain ⟨x_4653, ex_4653⟩ : ∃ z : Int32, z = z_4638 + Int32.ofInt 1 := ⟨_, rfl⟩
                      have hG := hG.trans (lt_eq ex_4653)
                      have vx_4653 : x_4653.toInt = z_4638.toInt + 1 := ti_add (y := 1) ex_4653 rfl kc_1 (om_4e4fce7e hi0_n_4640.1) (om_d6392c09 mn_p0.2 hi0_n_4640.2)
                      refine lv_iinc (v := x_4653) (lv' := [(6, .int x_4653), (5, .int z_4639), (8, .int x_4649), (7, .int x_4647), (4, .int x_4594), (0, .ref oM), (1, .ref rQ), (2, .int p0), (3, .int p1)]) hx hb dX7_worthAt_173 hl (k := 3) rfl ex_4653.symm (by decide) rfl (fun ls hl => ?_)
                      refine lv_goto (tgt := 72) hx hb dX7_worthAt_176 (by decide) ?_
                      exact ih_n_4640 x_4653 z_4639 _ _ _  ⟨(om_83b90de5 hi0_n_4640.1 vx_4653), (om_1ad1f819 cx_4642 gc_4643 vx_4653)⟩ (fold_step (v := x_4649) (part := x_4647) hi1_n_4640 (by have q := cx_4647; rw [show 4 * p0.toNatClampNeg + z_4638.toNatClampNeg = 4 * p0.toNatClampNeg + z_4638.toNatClampNeg from by omega]; exact q) lx_4649 (by first | exact step_k0 (by omega) (by omega) | exact step_q0 (by omega) (by omega)) (by have q1 := ti_cl (x := x_4653) vx_4653 (om_9548a8fd hi0_n_4640.1); have q2 := ti_cl (x := z_4638) rfl hi0_n_4640.1; omega)) (ms_lt hm_n_4640 (om_ed22490e vx_4653) (om_e4be4046 mn_p0.2 cx_4642 gc_4643)) hG hP hD hS (lv_sub hl [0, 1, 4, 5, 6, 7, 8] rfl)
                    · skip
                      have hG := hG.trans (if_neg c_4652)
                      have gc_4652 := ti_nle c_4652 rfl rfl
                      refine lv_iload hx hb dX7_worthAt_146 (lv_at hl 0 rfl) ?_
                      refine lv_goto (tgt := 153) hx hb dX7_worthAt_148 (by decide) ?_
                      refine lv_istore (lv' := [(5, .int x_4649), (8, .int x_4649), (7, .int x_4647), (6, .int z_4638), (4, .int x_4594), (0, .ref oM), (1, .ref rQ), (2, .int p0), (3, .int p1)]) hx hb dX7_worthAt_153 hl (by decide) rfl (fun ls hl => ?_)
                      refine lv_goto (tgt := 173) hx hb dX7_worthAt_155 (by decide) ?_
                      obtain ⟨x_4654, ex_4654⟩ : ∃ z : Int32, z = z_4638 + Int32.ofInt 1 := ⟨_, rfl⟩
                      have hG := hG.trans (lt_eq ex_4654)
                      have vx_4654 : x_4654.toInt = z_4638.toInt + 1 := ti_add (y := 1) ex_4654 rfl kc_1 (om_4e4fce7e hi0_n_4640.1) (om_d6392c09 mn_p0.2 hi0_n_4640.2)
                      refine lv_iinc (v := x_4654) (lv' := [(6, .int x_4654), (5, .int x_4649), (8, .int x_4649), (7, .int x_4647), (4, .int x_4594), (0, .ref oM), (1, .ref rQ), (2, .int p0), (3, .int p1)]) hx hb dX7_worthAt_173 hl (k := 3) rfl ex_4654.symm (by decide) rfl (fun ls hl => ?_)
                      refine lv_goto (tgt := 72) hx hb dX7_worthAt_176 (by decide) ?_
                      exact ih_n_4640 x_4654 x_4649 _ _ _  ⟨(om_83b90de5 hi0_n_4640.1 vx_4654), (om_1ad1f819 cx_4642 gc_4643 vx_4654)⟩ (fold_step (v := x_4649) (part := x_4647) hi1_n_4640 (by have q := cx_4647; rw [show 4 * p0.toNatClampNeg + z_4638.toNatClampNeg = 4 * p0.toNatClampNeg + z_4638.toNatClampNeg from by omega]; exact q) lx_4649 (by first | exact step_k1 (by omega) (by omega) | exact step_q1 (by omega) (by omega)) (by have q1 := ti_cl (x := x_4654) vx_4654 (om_9548a8fd hi0_n_4640.1); have q2 := ti_cl (x := z_4638) rfl hi0_n_4640.1; omega)) (ms_lt hm_n_4640 (om_ed22490e vx_4654) (om_e4be4046 mn_p0.2 cx_4642 gc_4643)) hG hP hD hS (lv_sub hl [0, 1, 4, 5, 6, 7, 8] rfl)
                · skip
                  have hG := hG.trans (if_pos c_4650)
                  have gc_4650 := ti_eq c_4650 rfl kc_1
                  exact ((om_e3b39179 gc_4597 gc_4650)).elim
          exact key_n_4640 (((4 - (0 : Int32).toInt).toNat) + 1) 0 100000000 _ _ _  ⟨(om_b1de7dbe kc_0), (om_2dfe280d mn_p0.1 kc_0)⟩ (by first | (have q0 := kc_0; have q1 := kc_1; have q2 := kc_100000000; omega) | decide | assumption | (show _ = startV _; rw [show (fM_r (9 + p0.toNatClampNeg)).toInt = 1 from by omega]; rfl) | (show _ = startV _; rw [show (fM_r (9 + p0.toNatClampNeg)).toInt = 2 from by omega]; rfl) | (show _ = startV _; rw [show (fM_r (9 + p0.toNatClampNeg)).toInt = 3 from by omega]; rfl)) (Nat.lt_add_one _) hG hP hD hS hl
      · skip
        have hG := hG.trans (if_pos c_4596)
        have gc_4596 := ti_eq c_4596 rfl rfl
        exact ((om_756d8502 hnt hdp.1 gc_4596)).elim
    · skip
      have hG := hG.trans (if_pos c_4595)
      have gc_4595 := ti_eq c_4595 rfl kc_0
      refine lv_aload_n hx hb dX7_worthAt_16 rfl (lv_at hl 2 rfl) ?_
      refine lv_bipush (v := 72) hx hb dX7_worthAt_17 (by decide) ?_
      refine lv_iload_n hx hb dX7_worthAt_19 rfl (lv_at hl 3 rfl) ?_
      refine lv_iadd hx hb dX7_worthAt_20 ?_
      refine lv_topi (fun x_4655 ex_4655 => ?_)
      have hG := hG.trans (lt_eq ex_4655)
      have vx_4655 : x_4655.toInt = p0.toInt + 72 := om_2d0716db (ti_add ex_4655 kc_72 rfl (om_7e97233d hk0.1) (om_a905bcc5 hdp.1 hdp.2))
      refine va_iald hx hb hK hP 3 2 rfl rfl (ti_in vx_4655 (om_2ad8b1ab hk0.1) (om_311d1202 hk0.2 s_nodes.2)) dX7_worthAt_21 ?_
      refine lv_topi (fun x_4656 ex_4656 => ?_)
      have hG := hG.trans (lt_eq ex_4656)
      have kx_4656 : (fQ x_4655.toNatClampNeg).toInt = x_4656.toInt := by rw [ex_4656]
      have cx_4656 : (fQ (72 + p0.toNatClampNeg)).toInt = x_4656.toInt := by rw [show 72 + p0.toNatClampNeg = x_4655.toNatClampNeg from (om_cbf191f8 (ti_cl (x := p0) rfl hk0.1) (ti_cl (x := x_4655) vx_4655 (om_2ad8b1ab hk0.1)))]; exact kx_4656
      refine lv_aload_n hx hb dX7_worthAt_22 rfl (lv_at hl 1 rfl) ?_
      refine va_get (D := (dC, dI)) (ci := 7) (v := .int iM_scale) (C := RX7) (T := TX7) (N := 48) hx hb hts inX7 hown hK hP 0 rfl rfl 26 (by decide) (hts _ wd_163) (fun _ h9 => h9) rfl dX7_worthAt_23 ?_
      refine lv_imul hx hb dX7_worthAt_26 ?_
      refine lv_topi (fun x_4657 ex_4657 => ?_)
      have hG := hG.trans (lt_eq ex_4657)
      exact wq_i hx hb hr 0 ⟨⟨trivial, (rval_word (z := x_4656) (by omega) (by have q := cx_4656; rw [show 72 + p0.toNatClampNeg = 72 + p0.toNatClampNeg from by omega]; exact q) ex_4657)⟩, hG⟩ (fun t ht hW => Bw.to hP hD hK ht hW) hS dX7_worthAt_27 hlocks
theorem tX7_worthAt_x (l : Launch) (dC : Nat → ClassId) (dI : Nat → Nat → Nat) (sz : Nat) (oM : Nat) (iM_thrown : Int32) (rM_tape : Nat) (iM_taped : Int32) (iM_size : Int32) (iM_at : Int32) (iM_end : Int32) (iM_token : Int32) (iM_whole : Int32) (iM_nameSize : Int32) (iM_fault : Int32) (iM_place : Int32) (iM_trouble : Int32) (rM_letters : Nat) (iM_failed : Int32) (iM_hasCourt : Int32) (rM_r : Nat) (fM_r : Nat → Int32) (kM_r : ClassId) (rM_fresh : Nat) (rM_told : Nat) (fM_told : Nat → Int32) (kM_told : ClassId) (rM_read : Nat) (rM_st : Nat) (rM_undone : Nat) (rM_kept : Nat) (iM_undos : Int32) (iM_images : Int32) (rM_fresher : Nat) (iM_fresherSize : Int32) (iM_scale : Int32) (iM_night : Int32) (rM_heardRow : Nat) (rM_cutRow : Nat) (iM_breaths : Int32) (iM_cutMany : Int32) (iM_allBreaths : Int32) (rM_trial : Nat) (rM_words : Nat) (iM_fewestBreaths : Int32) (iM_orderMany : Int32) (iM_orderSum : Int32) (iM_leastOrder : Int32) (rM_often : Nat) (iM_setMany : Int32) (iM_someOf : Int32) (iM_allOf : Int32) (iM_allWeight : Int64) (iM_enoughWeight : Int64) (iM_worthSum : Int64) (iM_firstRest : Int32) (iM_leastDrawn : Int32) (rQ : Nat) (fQ : Nat → Int32) (kQ : ClassId) (p0 : Int32) (p1 : Int32) (b_iM_taped : 0 ≤ iM_taped.toInt ∧ iM_taped.toInt ≤ 900) (b_iM_size : 0 ≤ iM_size.toInt ∧ iM_size.toInt ≤ 900) (b_iM_end : 0 ≤ iM_end.toInt ∧ iM_end.toInt ≤ 900) (b_iM_failed : 0 ≤ iM_failed.toInt ∧ iM_failed.toInt ≤ 1) (b_iM_hasCourt : 0 ≤ iM_hasCourt.toInt ∧ iM_hasCourt.toInt ≤ 1) (b_iM_undos : 0 ≤ iM_undos.toInt ∧ iM_undos.toInt ≤ 16) (b_iM_images : 0 ≤ iM_images.toInt ∧ iM_images.toInt ≤ 3) (b_iM_scale : 1 ≤ iM_scale.toInt ∧ iM_scale.toInt ≤ 1296) (b_iM_breaths : 0 ≤ iM_breaths.toInt ∧ iM_breaths.toInt ≤ 399) (b_iM_cutMany : 0 ≤ iM_cutMany.toInt ∧ iM_cutMany.toInt ≤ 399) (r_R : ROk fM_r) (r_C : iM_hasCourt.toInt ≤ 0 ∨ (1 ≤ (fM_r 1).toInt ∧ 0 ≤ (fM_r 6).toInt ∧ (fM_r 6).toInt < (fM_r 1).toInt)) (r_told : RowOk fM_r fM_told) (r_Q : RowOk fM_r fQ) (hk0 : 0 ≤ p0.toInt ∧ p0.toInt < (fM_r 1).toInt) (hnt : iM_night.toInt = -1) (hdp : 0 ≤ p1.toInt ∧ p1.toInt + p0.toInt ≤ 100) : Met l yX7_worthAt (Cond.code yX7_worthAt cX7_worthAt 9 (some .int) :: wG) ({ frames := 19, cells := 0, slots := 0, locals := 514 }) (va_Pc [.ref oM, .ref rQ, .int p0, .int p1] (Pw dC dI sz [(oc7 oM iM_thrown rM_tape iM_taped iM_size iM_at iM_end iM_token iM_whole iM_nameSize iM_fault iM_place iM_trouble rM_letters iM_failed iM_hasCourt rM_r rM_fresh rM_told rM_read rM_st rM_undone rM_kept iM_undos iM_images rM_fresher iM_fresherSize iM_scale iM_night rM_heardRow rM_cutRow iM_breaths iM_cutMany iM_allBreaths rM_trial rM_words iM_fewestBreaths iM_orderMany iM_orderSum iM_leastOrder rM_often iM_setMany iM_someOf iM_allOf iM_allWeight iM_enoughWeight iM_worthSum iM_firstRest iM_leastDrawn), (arI rM_r kM_r 287 fM_r), (arI rM_told kM_told 90 fM_told), (arI rQ kQ 90 fQ)] [(kM_r, .int), (kM_told, .int), (kQ, .int)])) (va_Qi (fun (r : Int32) (_ : Nat) => (True ∧ (r = rval fM_r fM_told fQ iM_scale 18 p0.toNatClampNeg)) ∧ PX7_worthAt 18 iM_night fM_r fM_told iM_scale fQ p0 p1 = r) (fun (_ : Nat) (t : State) => Bw dC dI (va_A [(oc7 oM iM_thrown rM_tape iM_taped iM_size iM_at iM_end iM_token iM_whole iM_nameSize iM_fault iM_place iM_trouble rM_letters iM_failed iM_hasCourt rM_r rM_fresh rM_told rM_read rM_st rM_undone rM_kept iM_undos iM_images rM_fresher iM_fresherSize iM_scale iM_night rM_heardRow rM_cutRow iM_breaths iM_cutMany iM_allBreaths rM_trial rM_words iM_fewestBreaths iM_orderMany iM_orderSum iM_leastOrder rM_often iM_setMany iM_someOf iM_allOf iM_allWeight iM_enoughWeight iM_worthSum iM_firstRest iM_leastDrawn), (arI rM_r kM_r 287 fM_r), (arI rM_told kM_told 90 fM_told), (arI rQ kQ 90 fQ)] sz) [(oc7 oM iM_thrown rM_tape iM_taped iM_size iM_at iM_end iM_token iM_whole iM_nameSize iM_fault iM_place iM_trouble rM_letters iM_failed iM_hasCourt rM_r rM_fresh rM_told rM_read rM_st rM_undone rM_kept iM_undos iM_images rM_fresher iM_fresherSize iM_scale iM_night rM_heardRow rM_cutRow iM_breaths iM_cutMany iM_allBreaths rM_trial rM_words iM_fewestBreaths iM_orderMany iM_orderSum iM_leastOrder rM_often iM_setMany iM_someOf iM_allOf iM_allWeight iM_enoughWeight iM_worthSum iM_firstRest iM_leastDrawn), (arI rM_r kM_r 287 fM_r), (arI rM_told kM_told 90 fM_told), (arI rQ kQ 90 fQ)] [(kM_r, .int), (kM_told, .int), (kQ, .int)] t) (va_A [(oc7 oM iM_thrown rM_tape iM_taped iM_size iM_at iM_end iM_token iM_whole iM_nameSize iM_fault iM_place iM_trouble rM_letters iM_failed iM_hasCourt rM_r rM_fresh rM_told rM_read rM_st rM_undone rM_kept iM_undos iM_images rM_fresher iM_fresherSize iM_scale iM_night rM_heardRow rM_cutRow iM_breaths iM_cutMany iM_allBreaths rM_trial rM_words iM_fewestBreaths iM_orderMany iM_orderSum iM_leastOrder rM_often iM_setMany iM_someOf iM_allOf iM_allWeight iM_enoughWeight iM_worthSum iM_firstRest iM_leastDrawn), (arI rM_r kM_r 287 fM_r), (arI rM_told kM_told 90 fM_told), (arI rQ kQ 90 fQ)] sz)) 0 0 (va_A [(oc7 oM iM_thrown rM_tape iM_taped iM_size iM_at iM_end iM_token iM_whole iM_nameSize iM_fault iM_place iM_trouble rM_letters iM_failed iM_hasCourt rM_r rM_fresh rM_told rM_read rM_st rM_undone rM_kept iM_undos iM_images rM_fresher iM_fresherSize iM_scale iM_night rM_heardRow rM_cutRow iM_breaths iM_cutMany iM_allBreaths rM_trial rM_words iM_fewestBreaths iM_orderMany iM_orderSum iM_leastOrder rM_often iM_setMany iM_someOf iM_allOf iM_allWeight iM_enoughWeight iM_worthSum iM_firstRest iM_leastDrawn), (arI rM_r kM_r 287 fM_r), (arI rM_told kM_told 90 fM_told), (arI rQ kQ 90 fQ)] sz) :=
  tX7_worthAt_x_n l dC dI 18 sz oM iM_thrown rM_tape iM_taped iM_size iM_at iM_end iM_token iM_whole iM_nameSize iM_fault iM_place iM_trouble rM_letters iM_failed iM_hasCourt rM_r fM_r kM_r rM_fresh rM_told fM_told kM_told rM_read rM_st rM_undone rM_kept iM_undos iM_images rM_fresher iM_fresherSize iM_scale iM_night rM_heardRow rM_cutRow iM_breaths iM_cutMany iM_allBreaths rM_trial rM_words iM_fewestBreaths iM_orderMany iM_orderSum iM_leastOrder rM_often iM_setMany iM_someOf iM_allOf iM_allWeight iM_enoughWeight iM_worthSum iM_firstRest iM_leastDrawn rQ fQ kQ p0 p1 b_iM_taped b_iM_size b_iM_end b_iM_failed b_iM_hasCourt b_iM_undos b_iM_images b_iM_scale b_iM_breaths b_iM_cutMany r_R r_C r_told r_Q hk0 hnt hdp (by have q := r_R.nodes; omega)
set_option maxHeartbeats 4000000 in
set_option maxRecDepth 100000 in
theorem tX7_worthOf_x (l : Launch) (dC : Nat → ClassId) (dI : Nat → Nat → Nat) (sz : Nat) (oM : Nat) (iM_thrown : Int32) (rM_tape : Nat) (iM_taped : Int32) (iM_size : Int32) (iM_at : Int32) (iM_end : Int32) (iM_token : Int32) (iM_whole : Int32) (iM_nameSize : Int32) (iM_fault : Int32) (iM_place : Int32) (iM_trouble : Int32) (rM_letters : Nat) (iM_failed : Int32) (iM_hasCourt : Int32) (rM_r : Nat) (fM_r : Nat → Int32) (kM_r : ClassId) (rM_fresh : Nat) (rM_told : Nat) (fM_told : Nat → Int32) (kM_told : ClassId) (rM_read : Nat) (rM_st : Nat) (rM_undone : Nat) (rM_kept : Nat) (iM_undos : Int32) (iM_images : Int32) (rM_fresher : Nat) (iM_fresherSize : Int32) (iM_scale : Int32) (iM_night : Int32) (rM_heardRow : Nat) (rM_cutRow : Nat) (iM_breaths : Int32) (iM_cutMany : Int32) (iM_allBreaths : Int32) (rM_trial : Nat) (rM_words : Nat) (iM_fewestBreaths : Int32) (iM_orderMany : Int32) (iM_orderSum : Int32) (iM_leastOrder : Int32) (rM_often : Nat) (iM_setMany : Int32) (iM_someOf : Int32) (iM_allOf : Int32) (iM_allWeight : Int64) (iM_enoughWeight : Int64) (iM_worthSum : Int64) (iM_firstRest : Int32) (iM_leastDrawn : Int32) (rQ : Nat) (fQ : Nat → Int32) (kQ : ClassId) (p0 : Int32) (b_iM_taped : 0 ≤ iM_taped.toInt ∧ iM_taped.toInt ≤ 900) (b_iM_size : 0 ≤ iM_size.toInt ∧ iM_size.toInt ≤ 900) (b_iM_end : 0 ≤ iM_end.toInt ∧ iM_end.toInt ≤ 900) (b_iM_failed : 0 ≤ iM_failed.toInt ∧ iM_failed.toInt ≤ 1) (b_iM_hasCourt : 0 ≤ iM_hasCourt.toInt ∧ iM_hasCourt.toInt ≤ 1) (b_iM_undos : 0 ≤ iM_undos.toInt ∧ iM_undos.toInt ≤ 16) (b_iM_images : 0 ≤ iM_images.toInt ∧ iM_images.toInt ≤ 3) (b_iM_scale : 1 ≤ iM_scale.toInt ∧ iM_scale.toInt ≤ 1296) (b_iM_breaths : 0 ≤ iM_breaths.toInt ∧ iM_breaths.toInt ≤ 399) (b_iM_cutMany : 0 ≤ iM_cutMany.toInt ∧ iM_cutMany.toInt ≤ 399) (r_R : ROk fM_r) (r_C : iM_hasCourt.toInt ≤ 0 ∨ (1 ≤ (fM_r 1).toInt ∧ 0 ≤ (fM_r 6).toInt ∧ (fM_r 6).toInt < (fM_r 1).toInt)) (r_told : RowOk fM_r fM_told) (r_Q : RowOk fM_r fQ) (hk0 : 0 ≤ p0.toInt ∧ p0.toInt < (fM_r 1).toInt) (hnt : iM_night.toInt = -1) : Met l yX7_worthOf (Cond.code yX7_worthOf cX7_worthOf 3 (some .int) :: wG) ({ frames := 20, cells := 0, slots := 0, locals := 542 }) (va_Pc [.ref oM, .ref rQ, .int p0] (Pw dC dI sz [(oc7 oM iM_thrown rM_tape iM_taped iM_size iM_at iM_end iM_token iM_whole iM_nameSize iM_fault iM_place iM_trouble rM_letters iM_failed iM_hasCourt rM_r rM_fresh rM_told rM_read rM_st rM_undone rM_kept iM_undos iM_images rM_fresher iM_fresherSize iM_scale iM_night rM_heardRow rM_cutRow iM_breaths iM_cutMany iM_allBreaths rM_trial rM_words iM_fewestBreaths iM_orderMany iM_orderSum iM_leastOrder rM_often iM_setMany iM_someOf iM_allOf iM_allWeight iM_enoughWeight iM_worthSum iM_firstRest iM_leastDrawn), (arI rM_r kM_r 287 fM_r), (arI rM_told kM_told 90 fM_told), (arI rQ kQ 90 fQ)] [(kM_r, .int), (kM_told, .int), (kQ, .int)])) (va_Qi (fun (r : Int32) (_ : Nat) => (True ∧ (r = rval fM_r fM_told fQ iM_scale 18 p0.toNatClampNeg)) ∧ PX7_worthOf fM_r fM_told iM_scale iM_night fQ p0 = r) (fun (_ : Nat) (t : State) => Bw dC dI (va_A [(oc7 oM iM_thrown rM_tape iM_taped iM_size iM_at iM_end iM_token iM_whole iM_nameSize iM_fault iM_place iM_trouble rM_letters iM_failed iM_hasCourt rM_r rM_fresh rM_told rM_read rM_st rM_undone rM_kept iM_undos iM_images rM_fresher iM_fresherSize iM_scale iM_night rM_heardRow rM_cutRow iM_breaths iM_cutMany iM_allBreaths rM_trial rM_words iM_fewestBreaths iM_orderMany iM_orderSum iM_leastOrder rM_often iM_setMany iM_someOf iM_allOf iM_allWeight iM_enoughWeight iM_worthSum iM_firstRest iM_leastDrawn), (arI rM_r kM_r 287 fM_r), (arI rM_told kM_told 90 fM_told), (arI rQ kQ 90 fQ)] sz) [(oc7 oM iM_thrown rM_tape iM_taped iM_size iM_at iM_end iM_token iM_whole iM_nameSize iM_fault iM_place iM_trouble rM_letters iM_failed iM_hasCourt rM_r rM_fresh rM_told rM_read rM_st rM_undone rM_kept iM_undos iM_images rM_fresher iM_fresherSize iM_scale iM_night rM_heardRow rM_cutRow iM_breaths iM_cutMany iM_allBreaths rM_trial rM_words iM_fewestBreaths iM_orderMany iM_orderSum iM_leastOrder rM_often iM_setMany iM_someOf iM_allOf iM_allWeight iM_enoughWeight iM_worthSum iM_firstRest iM_leastDrawn), (arI rM_r kM_r 287 fM_r), (arI rM_told kM_told 90 fM_told), (arI rQ kQ 90 fQ)] [(kM_r, .int), (kM_told, .int), (kQ, .int)] t) (va_A [(oc7 oM iM_thrown rM_tape iM_taped iM_size iM_at iM_end iM_token iM_whole iM_nameSize iM_fault iM_place iM_trouble rM_letters iM_failed iM_hasCourt rM_r rM_fresh rM_told rM_read rM_st rM_undone rM_kept iM_undos iM_images rM_fresher iM_fresherSize iM_scale iM_night rM_heardRow rM_cutRow iM_breaths iM_cutMany iM_allBreaths rM_trial rM_words iM_fewestBreaths iM_orderMany iM_orderSum iM_leastOrder rM_often iM_setMany iM_someOf iM_allOf iM_allWeight iM_enoughWeight iM_worthSum iM_firstRest iM_leastDrawn), (arI rM_r kM_r 287 fM_r), (arI rM_told kM_told 90 fM_told), (arI rQ kQ 90 fQ)] sz)) 0 0 (va_A [(oc7 oM iM_thrown rM_tape iM_taped iM_size iM_at iM_end iM_token iM_whole iM_nameSize iM_fault iM_place iM_trouble rM_letters iM_failed iM_hasCourt rM_r rM_fresh rM_told rM_read rM_st rM_undone rM_kept iM_undos iM_images rM_fresher iM_fresherSize iM_scale iM_night rM_heardRow rM_cutRow iM_breaths iM_cutMany iM_allBreaths rM_trial rM_words iM_fewestBreaths iM_orderMany iM_orderSum iM_leastOrder rM_often iM_setMany iM_someOf iM_allOf iM_allWeight iM_enoughWeight iM_worthSum iM_firstRest iM_leastDrawn), (arI rM_r kM_r 287 fM_r), (arI rM_told kM_told 90 fM_told), (arI rQ kQ 90 fQ)] sz) := by
  refine Met.ofW (cc := cX7_worthOf) (maxL := 3) (ret := (some .int)) pnX7 rfl ?_
  intro p e s m args below meth c s₁ B hml hv
  obtain ⟨rfl, hsz, hP, hK, hD0, hE⟩ := hv
  have hx := B.exec
  have hb := B.bytes
  have hr := B.returns
  have hts : ∀ w ∈ wG, w.before ([.ref oM, .ref rQ, .int p0] : List Value).toArray s = true := fun w h => atoms_spec (ws := Cond.code yX7_worthOf cX7_worthOf 3 (some .int) :: wG) B.pre w (List.mem_cons_of_mem _ h)
  have hown : s.vm.findClass RX7 = some m.cls := own_of B.named rfl
  have hlocks := B.notSynchronized
  subst hsz
  have hD := hD0.self (sz := s.heap.size)
  generalize hAe : va_A [(oc7 oM iM_thrown rM_tape iM_taped iM_size iM_at iM_end iM_token iM_whole iM_nameSize iM_fault iM_place iM_trouble rM_letters iM_failed iM_hasCourt rM_r rM_fresh rM_told rM_read rM_st rM_undone rM_kept iM_undos iM_images rM_fresher iM_fresherSize iM_scale iM_night rM_heardRow rM_cutRow iM_breaths iM_cutMany iM_allBreaths rM_trial rM_words iM_fewestBreaths iM_orderMany iM_orderSum iM_leastOrder rM_often iM_setMany iM_someOf iM_allOf iM_allWeight iM_enoughWeight iM_worthSum iM_firstRest iM_leastDrawn), (arI rM_r kM_r 287 fM_r), (arI rM_told kM_told 90 fM_told), (arI rQ kQ 90 fQ)] s.heap.size = A at hD hE ⊢
  have hA : ∀ q : Nat, s.heap.size ≤ q → A q := fun q h => by rw [← hAe]; exact Or.inr h
  have hS : va_S A s.heap s.heap [] := va_S.rf
  have hl := lv_entry ([.ref oM, .ref rQ, .int p0]) (n := 3) (Nat.le_of_ble_eq_true rfl)
  rw [lg_entry_eq]
  generalize (lg_sl ([.ref oM, .ref rQ, .int p0]) ++ List.replicate (3 - (lg_sl ([.ref oM, .ref rQ, .int p0])).length) Slot.unset).toArray = ls at hl ⊢
  have hl : lv_has ls 3 [(0, .ref oM), (1, .ref rQ), (2, .int p0)] := hl
  have hG := PX7_worthOf_eq fM_r fM_told iM_scale iM_night fQ p0
  have s_slips := r_R.slips
  have s_nodes := r_R.nodes
  have s_uns := r_R.uns
  have q_p0 := ti_cl (x := p0) rfl hk0.1
  have mn_p0 := r_R.many (27 + p0.toNatClampNeg) (Nat.le_add_right _ _) (om_6c263690 (ti_cl (x := p0) rfl hk0.1) hk0.2 s_nodes.2)
  have kn_p0 := r_R.kind (9 + p0.toNatClampNeg) (Nat.le_add_right _ _) (om_57ce868b (ti_cl (x := p0) rfl hk0.1) hk0.2 s_nodes.2)
  have in_p0 := r_R.inner p0.toNatClampNeg (om_05d4ad0a (ti_cl (x := p0) rfl hk0.1) hk0.2)
  refine lv_aload_n hx hb dX7_worthOf_0 rfl (lv_at hl 0 rfl) ?_
  refine lv_aload_n hx hb dX7_worthOf_1 rfl (lv_at hl 1 rfl) ?_
  refine lv_iload_n hx hb dX7_worthOf_2 rfl (lv_at hl 2 rfl) ?_
  refine lv_iconst (v := 0) hx hb dX7_worthOf_3 (by decide) ?_
  have hFc := va_freeI hD hS hA
  refine va_calli (va_runV (As := [.ref rQ, .int p0, .int 0]) (rest := []) ⟨hx, hb, hml, hown, hts⟩ (tX7_worthAt_x l dC dI _ oM iM_thrown rM_tape iM_taped iM_size iM_at iM_end iM_token iM_whole iM_nameSize iM_fault iM_place iM_trouble rM_letters iM_failed iM_hasCourt rM_r fM_r kM_r rM_fresh rM_told fM_told kM_told rM_read rM_st rM_undone rM_kept iM_undos iM_images rM_fresher iM_fresherSize iM_scale iM_night rM_heardRow rM_cutRow iM_breaths iM_cutMany iM_allBreaths rM_trial rM_words iM_fewestBreaths iM_orderMany iM_orderSum iM_leastOrder rM_often iM_setMany iM_someOf iM_allOf iM_allWeight iM_enoughWeight iM_worthSum iM_firstRest iM_leastDrawn rQ fQ kQ p0 0 b_iM_taped b_iM_size b_iM_end b_iM_failed b_iM_hasCourt b_iM_undos b_iM_images b_iM_scale b_iM_breaths b_iM_cutMany (by assumption) (by assumption) (by assumption) (by assumption) ⟨hk0.1, hk0.2⟩ hnt ⟨(om_b1de7dbe kc_0), (om_999e7d75 hk0.2 s_nodes.2 kc_0)⟩) (cwV 3 hts (wd_V wd_649 wd_650 wd_651 wd_5 (wd_c wd_652)) rfl rfl rfl dv_yX7_worthAt_3 ⟨Nat.le_of_ble_eq_true rfl, Nat.le_of_ble_eq_true rfl⟩) ⟨Pw.fb, recvX7 hK hP (q0 := 0) rfl, fun U hU hW => Pw.to hP hD hK hE hS hFc hU hW⟩ rfl rfl hl.1 rfl (lv_room (Nat.le_of_ble_eq_true rfl)) dX7_worthOf_4 ⟨Nat.le_of_ble_eq_true rfl, Nat.le_of_ble_eq_true rfl⟩) hS (fun q _ h => hFc q h) hFc (fun r u t H locs ht hvm hw hB hz1 hk1 hS => ?_)
  have hru9 := hw.2
  have hw := hw.1
  obtain ⟨hP, hD⟩ := Bw.goA (ws' := [(oc7 oM iM_thrown rM_tape iM_taped iM_size iM_at iM_end iM_token iM_whole iM_nameSize iM_fault iM_place iM_trouble rM_letters iM_failed iM_hasCourt rM_r rM_fresh rM_told rM_read rM_st rM_undone rM_kept iM_undos iM_images rM_fresher iM_fresherSize iM_scale iM_night rM_heardRow rM_cutRow iM_breaths iM_cutMany iM_allBreaths rM_trial rM_words iM_fewestBreaths iM_orderMany iM_orderSum iM_leastOrder rM_often iM_setMany iM_someOf iM_allOf iM_allWeight iM_enoughWeight iM_worthSum iM_firstRest iM_leastDrawn), (arI rM_r kM_r 287 fM_r), (arI rM_told kM_told 90 fM_told), (arI rQ kQ 90 fQ)]) hB rfl ht hFc rfl
  clear hz1 hk1 hvm ht hB
  obtain ⟨x_4659, rfl⟩ : ∃ z, z = r := ⟨_, rfl⟩
  have hG := hG.trans (lt_eq hru9.symm)
  have lx_4659 := hw.2
  exact wq_i hx hb hr 0 ⟨⟨trivial, lx_4659⟩, hG⟩ (fun t ht hW => Bw.to hP hD hK ht hW) hS dX7_worthOf_7 hlocks
set_option maxHeartbeats 4000000 in
set_option maxRecDepth 100000 in
theorem tX7_bestOf (l : Launch) (dC : Nat → ClassId) (dI : Nat → Nat → Nat) (sz : Nat) (oM : Nat) (iM_thrown : Int32) (rM_tape : Nat) (iM_taped : Int32) (iM_size : Int32) (iM_at : Int32) (iM_end : Int32) (iM_token : Int32) (iM_whole : Int32) (iM_nameSize : Int32) (iM_fault : Int32) (iM_place : Int32) (iM_trouble : Int32) (rM_letters : Nat) (iM_failed : Int32) (iM_hasCourt : Int32) (rM_r : Nat) (fM_r : Nat → Int32) (kM_r : ClassId) (rM_fresh : Nat) (rM_told : Nat) (fM_told : Nat → Int32) (kM_told : ClassId) (rM_read : Nat) (rM_st : Nat) (fM_st : Nat → Int32) (kM_st : ClassId) (rM_undone : Nat) (rM_kept : Nat) (iM_undos : Int32) (iM_images : Int32) (rM_fresher : Nat) (iM_fresherSize : Int32) (iM_scale : Int32) (iM_night : Int32) (rM_heardRow : Nat) (rM_cutRow : Nat) (iM_breaths : Int32) (iM_cutMany : Int32) (iM_allBreaths : Int32) (rM_trial : Nat) (rM_words : Nat) (iM_fewestBreaths : Int32) (iM_orderMany : Int32) (iM_orderSum : Int32) (iM_leastOrder : Int32) (rM_often : Nat) (iM_setMany : Int32) (iM_someOf : Int32) (iM_allOf : Int32) (iM_allWeight : Int64) (iM_enoughWeight : Int64) (iM_worthSum : Int64) (iM_firstRest : Int32) (iM_leastDrawn : Int32) (p0 : Int32) (b_iM_taped : 0 ≤ iM_taped.toInt ∧ iM_taped.toInt ≤ 900) (b_iM_size : 0 ≤ iM_size.toInt ∧ iM_size.toInt ≤ 900) (b_iM_end : 0 ≤ iM_end.toInt ∧ iM_end.toInt ≤ 900) (b_iM_failed : 0 ≤ iM_failed.toInt ∧ iM_failed.toInt ≤ 1) (b_iM_hasCourt : 0 ≤ iM_hasCourt.toInt ∧ iM_hasCourt.toInt ≤ 1) (b_iM_undos : 0 ≤ iM_undos.toInt ∧ iM_undos.toInt ≤ 16) (b_iM_images : 0 ≤ iM_images.toInt ∧ iM_images.toInt ≤ 3) (b_iM_scale : 1 ≤ iM_scale.toInt ∧ iM_scale.toInt ≤ 1296) (b_iM_breaths : 0 ≤ iM_breaths.toInt ∧ iM_breaths.toInt ≤ 399) (b_iM_cutMany : 0 ≤ iM_cutMany.toInt ∧ iM_cutMany.toInt ≤ 399) (r_R : ROk fM_r) (r_C : iM_hasCourt.toInt ≤ 0 ∨ (1 ≤ (fM_r 1).toInt ∧ 0 ≤ (fM_r 6).toInt ∧ (fM_r 6).toInt < (fM_r 1).toInt)) (r_st : RowOk fM_r fM_st) (r_told : RowOk fM_r fM_told) (r_wst : WorOk fM_st) (hk0 : 0 ≤ p0.toInt ∧ p0.toInt < (fM_r 1).toInt) (hnt : iM_night.toInt = -1) : Met l yX7_bestOf (Cond.code yX7_bestOf cX7_bestOf 3 (some .int) :: wG) ({ frames := 21, cells := 0, slots := 0, locals := 564 }) (va_Pc [.ref oM, .int p0] (Pw dC dI sz [(oc7 oM iM_thrown rM_tape iM_taped iM_size iM_at iM_end iM_token iM_whole iM_nameSize iM_fault iM_place iM_trouble rM_letters iM_failed iM_hasCourt rM_r rM_fresh rM_told rM_read rM_st rM_undone rM_kept iM_undos iM_images rM_fresher iM_fresherSize iM_scale iM_night rM_heardRow rM_cutRow iM_breaths iM_cutMany iM_allBreaths rM_trial rM_words iM_fewestBreaths iM_orderMany iM_orderSum iM_leastOrder rM_often iM_setMany iM_someOf iM_allOf iM_allWeight iM_enoughWeight iM_worthSum iM_firstRest iM_leastDrawn), (arI rM_r kM_r 287 fM_r), (arI rM_told kM_told 90 fM_told), (arI rM_st kM_st 90 fM_st)] [(kM_r, .int), (kM_told, .int), (kM_st, .int)])) (va_Qi (fun (r : Int32) (_ : Nat) => (True ∧ (-2 ≤ r.toInt ∧ r.toInt < p0.toInt ∧ r.toInt ≤ 17)) ∧ PX7_bestOf fM_r fM_told fM_st iM_scale iM_night p0 = r) (fun (_ : Nat) (t : State) => Bw dC dI (va_A [(oc7 oM iM_thrown rM_tape iM_taped iM_size iM_at iM_end iM_token iM_whole iM_nameSize iM_fault iM_place iM_trouble rM_letters iM_failed iM_hasCourt rM_r rM_fresh rM_told rM_read rM_st rM_undone rM_kept iM_undos iM_images rM_fresher iM_fresherSize iM_scale iM_night rM_heardRow rM_cutRow iM_breaths iM_cutMany iM_allBreaths rM_trial rM_words iM_fewestBreaths iM_orderMany iM_orderSum iM_leastOrder rM_often iM_setMany iM_someOf iM_allOf iM_allWeight iM_enoughWeight iM_worthSum iM_firstRest iM_leastDrawn), (arI rM_r kM_r 287 fM_r), (arI rM_told kM_told 90 fM_told), (arI rM_st kM_st 90 fM_st)] sz) [(oc7 oM iM_thrown rM_tape iM_taped iM_size iM_at iM_end iM_token iM_whole iM_nameSize iM_fault iM_place iM_trouble rM_letters iM_failed iM_hasCourt rM_r rM_fresh rM_told rM_read rM_st rM_undone rM_kept iM_undos iM_images rM_fresher iM_fresherSize iM_scale iM_night rM_heardRow rM_cutRow iM_breaths iM_cutMany iM_allBreaths rM_trial rM_words iM_fewestBreaths iM_orderMany iM_orderSum iM_leastOrder rM_often iM_setMany iM_someOf iM_allOf iM_allWeight iM_enoughWeight iM_worthSum iM_firstRest iM_leastDrawn), (arI rM_r kM_r 287 fM_r), (arI rM_told kM_told 90 fM_told), (arI rM_st kM_st 90 fM_st)] [(kM_r, .int), (kM_told, .int), (kM_st, .int)] t) (va_A [(oc7 oM iM_thrown rM_tape iM_taped iM_size iM_at iM_end iM_token iM_whole iM_nameSize iM_fault iM_place iM_trouble rM_letters iM_failed iM_hasCourt rM_r rM_fresh rM_told rM_read rM_st rM_undone rM_kept iM_undos iM_images rM_fresher iM_fresherSize iM_scale iM_night rM_heardRow rM_cutRow iM_breaths iM_cutMany iM_allBreaths rM_trial rM_words iM_fewestBreaths iM_orderMany iM_orderSum iM_leastOrder rM_often iM_setMany iM_someOf iM_allOf iM_allWeight iM_enoughWeight iM_worthSum iM_firstRest iM_leastDrawn), (arI rM_r kM_r 287 fM_r), (arI rM_told kM_told 90 fM_told), (arI rM_st kM_st 90 fM_st)] sz)) 0 0 (va_A [(oc7 oM iM_thrown rM_tape iM_taped iM_size iM_at iM_end iM_token iM_whole iM_nameSize iM_fault iM_place iM_trouble rM_letters iM_failed iM_hasCourt rM_r rM_fresh rM_told rM_read rM_st rM_undone rM_kept iM_undos iM_images rM_fresher iM_fresherSize iM_scale iM_night rM_heardRow rM_cutRow iM_breaths iM_cutMany iM_allBreaths rM_trial rM_words iM_fewestBreaths iM_orderMany iM_orderSum iM_leastOrder rM_often iM_setMany iM_someOf iM_allOf iM_allWeight iM_enoughWeight iM_worthSum iM_firstRest iM_leastDrawn), (arI rM_r kM_r 287 fM_r), (arI rM_told kM_told 90 fM_told), (arI rM_st kM_st 90 fM_st)] sz) := by
  refine Met.ofW (cc := cX7_bestOf) (maxL := 3) (ret := (some .int)) pnX7 rfl ?_
  intro p e s m args below meth c s₁ B hml hv
  obtain ⟨rfl, hsz, hP, hK, hD0, hE⟩ := hv
  have hx := B.exec
  have hb := B.bytes
  have hr := B.returns
  have hts : ∀ w ∈ wG, w.before ([.ref oM, .int p0] : List Value).toArray s = true := fun w h => atoms_spec (ws := Cond.code yX7_bestOf cX7_bestOf 3 (some .int) :: wG) B.pre w (List.mem_cons_of_mem _ h)
  have hown : s.vm.findClass RX7 = some m.cls := own_of B.named rfl
  have hlocks := B.notSynchronized
  subst hsz
  have hD := hD0.self (sz := s.heap.size)
  generalize hAe : va_A [(oc7 oM iM_thrown rM_tape iM_taped iM_size iM_at iM_end iM_token iM_whole iM_nameSize iM_fault iM_place iM_trouble rM_letters iM_failed iM_hasCourt rM_r rM_fresh rM_told rM_read rM_st rM_undone rM_kept iM_undos iM_images rM_fresher iM_fresherSize iM_scale iM_night rM_heardRow rM_cutRow iM_breaths iM_cutMany iM_allBreaths rM_trial rM_words iM_fewestBreaths iM_orderMany iM_orderSum iM_leastOrder rM_often iM_setMany iM_someOf iM_allOf iM_allWeight iM_enoughWeight iM_worthSum iM_firstRest iM_leastDrawn), (arI rM_r kM_r 287 fM_r), (arI rM_told kM_told 90 fM_told), (arI rM_st kM_st 90 fM_st)] s.heap.size = A at hD hE ⊢
  have hA : ∀ q : Nat, s.heap.size ≤ q → A q := fun q h => by rw [← hAe]; exact Or.inr h
  have hS : va_S A s.heap s.heap [] := va_S.rf
  have hl := lv_entry ([.ref oM, .int p0]) (n := 3) (Nat.le_of_ble_eq_true rfl)
  rw [lg_entry_eq]
  generalize (lg_sl ([.ref oM, .int p0]) ++ List.replicate (3 - (lg_sl ([.ref oM, .int p0])).length) Slot.unset).toArray = ls at hl ⊢
  have hl : lv_has ls 3 [(0, .ref oM), (1, .int p0)] := hl
  have hG := PX7_bestOf_eq fM_r fM_told fM_st iM_scale iM_night p0
  have s_slips := r_R.slips
  have s_nodes := r_R.nodes
  have s_uns := r_R.uns
  have q_p0 := ti_cl (x := p0) rfl hk0.1
  have mn_p0 := r_R.many (27 + p0.toNatClampNeg) (Nat.le_add_right _ _) (om_6c263690 (ti_cl (x := p0) rfl hk0.1) hk0.2 s_nodes.2)
  have kn_p0 := r_R.kind (9 + p0.toNatClampNeg) (Nat.le_add_right _ _) (om_57ce868b (ti_cl (x := p0) rfl hk0.1) hk0.2 s_nodes.2)
  have in_p0 := r_R.inner p0.toNatClampNeg (om_05d4ad0a (ti_cl (x := p0) rfl hk0.1) hk0.2)
  refine lv_aload_n hx hb dX7_bestOf_0 rfl (lv_at hl 0 rfl) ?_
  refine va_get (D := (dC, dI)) (ci := 7) (v := .ref rM_r) (C := RX7) (T := TX7) (N := 48) hx hb hts inX7 hown hK hP 0 rfl rfl 15 (by decide) (hts _ wd_155) (fun _ h9 => h9) rfl dX7_bestOf_1 ?_
  refine lv_bipush (v := 9) hx hb dX7_bestOf_4 (by decide) ?_
  refine lv_iload_n hx hb dX7_bestOf_6 rfl (lv_at hl 1 rfl) ?_
  refine lv_iadd hx hb dX7_bestOf_7 ?_
  refine lv_topi (fun x_4690 ex_4690 => ?_)
  have hG := hG.trans (lt_eq ex_4690)
  have vx_4690 : x_4690.toInt = p0.toInt + 9 := om_296ce4dd (ti_add ex_4690 kc_9 rfl (om_090bbef4 hk0.1) (om_79f05b99 hk0.2 s_nodes.2))
  refine va_iald hx hb hK hP 1 0 rfl rfl (ti_in vx_4690 (om_edbe2e4c hk0.1) (om_c4df49a1 hk0.2 s_nodes.2)) dX7_bestOf_8 ?_
  refine lv_topi (fun x_4691 ex_4691 => ?_)
  have hG := hG.trans (lt_eq ex_4691)
  have kx_4691 : (fM_r x_4690.toNatClampNeg).toInt = x_4691.toInt := by rw [ex_4691]
  have cx_4691 : (fM_r (9 + p0.toNatClampNeg)).toInt = x_4691.toInt := by rw [show 9 + p0.toNatClampNeg = x_4690.toNatClampNeg from (om_32f1c3e7 (ti_cl (x := p0) rfl hk0.1) (ti_cl (x := x_4690) vx_4690 (om_edbe2e4c hk0.1)))]; exact kx_4691
  have sx_4691 := r_R.kind x_4690.toNatClampNeg (om_462cc4af (ti_cl (x := x_4690) vx_4690 (om_edbe2e4c hk0.1)) hk0.1) (om_7afb9f20 (ti_cl (x := x_4690) vx_4690 (om_edbe2e4c hk0.1)) hk0.2 s_nodes.2)
  refine lv_iconst (v := 1) hx hb dX7_bestOf_9 (by decide) ?_
  refine lv_icmp_eq (tgt := 29) hx hb dX7_bestOf_10 (by decide) (fun c_4692 => ?_) (fun c_4692 => ?_)
  · skip
    have hG := hG.trans (if_pos c_4692)
    have gc_4692 := ti_eq c_4692 rfl kc_1
    refine lv_iconst (v := 0) hx hb dX7_bestOf_29 (by decide) ?_
    refine lv_istore_n (lv' := [(2, .int 0), (0, .ref oM), (1, .int p0)]) hx hb dX7_bestOf_30 rfl hl (by decide) rfl (fun ls hl => ?_)
    have hl := lv_sub hl (l' := [(2, .int 0), (0, .ref oM), (1, .int p0)]) [0, 1, 2] rfl
    have key_n_4694 : ∀ (n_4694 : Nat) (z_4693 : Int32) (H : Heap) (locs : List Loc) (ls : Array Slot), (0 ≤ z_4693.toInt ∧ z_4693.toInt < (fM_r (27 + p0.toNatClampNeg)).toInt) → (BestJ fM_r fM_told fM_st iM_scale p0.toNatClampNeg z_4693.toInt) → ((fM_r (27 + p0.toNatClampNeg)).toInt - z_4693.toInt).toNat < n_4694 → (PX7_bestOf fM_r fM_told fM_st iM_scale iM_night p0 = HX7_bestOf_0 fM_r fM_told fM_st iM_scale iM_night p0 n_4694 z_4693) → va_P (dC, dI) vwCl [(oc7 oM iM_thrown rM_tape iM_taped iM_size iM_at iM_end iM_token iM_whole iM_nameSize iM_fault iM_place iM_trouble rM_letters iM_failed iM_hasCourt rM_r rM_fresh rM_told rM_read rM_st rM_undone rM_kept iM_undos iM_images rM_fresher iM_fresherSize iM_scale iM_night rM_heardRow rM_cutRow iM_breaths iM_cutMany iM_allBreaths rM_trial rM_words iM_fewestBreaths iM_orderMany iM_orderSum iM_leastOrder rM_often iM_setMany iM_someOf iM_allOf iM_allWeight iM_enoughWeight iM_worthSum iM_firstRest iM_leastDrawn), (arI rM_r kM_r 287 fM_r), (arI rM_told kM_told 90 fM_told), (arI rM_st kM_st 90 fM_st)] H → va_D A [(oc7 oM iM_thrown rM_tape iM_taped iM_size iM_at iM_end iM_token iM_whole iM_nameSize iM_fault iM_place iM_trouble rM_letters iM_failed iM_hasCourt rM_r rM_fresh rM_told rM_read rM_st rM_undone rM_kept iM_undos iM_images rM_fresher iM_fresherSize iM_scale iM_night rM_heardRow rM_cutRow iM_breaths iM_cutMany iM_allBreaths rM_trial rM_words iM_fewestBreaths iM_orderMany iM_orderSum iM_leastOrder rM_often iM_setMany iM_someOf iM_allOf iM_allWeight iM_enoughWeight iM_worthSum iM_firstRest iM_leastDrawn), (arI rM_r kM_r 287 fM_r), (arI rM_told kM_told 90 fM_told), (arI rM_st kM_st 90 fM_st)] → va_S A s.heap H locs → lv_has ls 3 [(2, .int z_4693), (0, .ref oM), (1, .int p0)] → W p l e (headSpec (Cond.code yX7_bestOf cX7_bestOf 3 (some .int) :: wG) ({ frames := 21, cells := 0, slots := 0, locals := 564 })).room s m ([.ref oM, .int p0] : List Value).toArray below meth c H locs 0 0 (MQ below (va_Qi (fun (r : Int32) (_ : Nat) => (True ∧ (-2 ≤ r.toInt ∧ r.toInt < p0.toInt ∧ r.toInt ≤ 17)) ∧ PX7_bestOf fM_r fM_told fM_st iM_scale iM_night p0 = r) (fun (_ : Nat) (t : State) => Bw dC dI A [(oc7 oM iM_thrown rM_tape iM_taped iM_size iM_at iM_end iM_token iM_whole iM_nameSize iM_fault iM_place iM_trouble rM_letters iM_failed iM_hasCourt rM_r rM_fresh rM_told rM_read rM_st rM_undone rM_kept iM_undos iM_images rM_fresher iM_fresherSize iM_scale iM_night rM_heardRow rM_cutRow iM_breaths iM_cutMany iM_allBreaths rM_trial rM_words iM_fewestBreaths iM_orderMany iM_orderSum iM_leastOrder rM_often iM_setMany iM_someOf iM_allOf iM_allWeight iM_enoughWeight iM_worthSum iM_firstRest iM_leastDrawn), (arI rM_r kM_r 287 fM_r), (arI rM_told kM_told 90 fM_told), (arI rM_st kM_st 90 fM_st)] [(kM_r, .int), (kM_told, .int), (kM_st, .int)] t) A) ([.ref oM, .int p0] : List Value).toArray s 0 0 A) (F0 m 31 ls []) := by
      intro n_4694
      induction n_4694 with
      | zero => intro z_4693 H locs ls hi0_n_4694 hi1_n_4694 hm; exact absurd hm (Nat.not_lt_zero _)
      | succ n_4694 ih_n_4694 =>
        intro z_4693 H locs ls hi0_n_4694 hi1_n_4694 hm_n_4694 hG hP hD hS hl
        have hG := hG.trans (HX7_bestOf_0_eq _ _ _ _ _ _ _ _)
        refine lv_aload_n hx hb dX7_bestOf_31 rfl (lv_at hl 1 rfl) ?_
        refine lv_aload_n hx hb dX7_bestOf_32 rfl (lv_at hl 1 rfl) ?_
        refine va_get (D := (dC, dI)) (ci := 7) (v := .ref rM_st) (C := RX7) (T := TX7) (N := 48) hx hb hts inX7 hown hK hP 0 rfl rfl 19 (by decide) (hts _ wd_159) (fun _ h9 => h9) rfl dX7_bestOf_33 ?_
        refine lv_aload_n hx hb dX7_bestOf_36 rfl (lv_at hl 1 rfl) ?_
        refine va_get (D := (dC, dI)) (ci := 7) (v := .ref rM_st) (C := RX7) (T := TX7) (N := 48) hx hb hts inX7 hown hK hP 0 rfl rfl 19 (by decide) (hts _ wd_159) (fun _ h9 => h9) rfl dX7_bestOf_37 ?_
        refine lv_iconst (v := 4) hx hb dX7_bestOf_40 (by decide) ?_
        refine lv_iload_n hx hb dX7_bestOf_41 rfl (lv_at hl 2 rfl) ?_
        refine lv_imul hx hb dX7_bestOf_42 ?_
        refine lv_topi (fun x_4695 ex_4695 => ?_)
        have hG := hG.trans (lt_eq ex_4695)
        have vx_4695 : x_4695.toInt = 4 * p0.toInt := ti_mul ex_4695 kc_4 rfl (om_56b74365 hk0.1) (om_eac0354e hk0.2 s_nodes.2)
        refine lv_iload_n hx hb dX7_bestOf_43 rfl (lv_at hl 0 rfl) ?_
        refine lv_iadd hx hb dX7_bestOf_44 ?_
        refine lv_topi (fun x_4696 ex_4696 => ?_)
        have hG := hG.trans (lt_eq ex_4696)
        have vx_4696 : x_4696.toInt = 4 * p0.toInt + z_4693.toInt := om_5d0caf0f (ti_add ex_4696 vx_4695 rfl (om_056a216f hk0.1 hi0_n_4694.1) (om_e3219df6 hk0.2 s_nodes.2 mn_p0.2 hi0_n_4694.2))
        refine va_iald hx hb hK hP 3 2 rfl rfl (ti_in vx_4696 (om_fc2812d4 hk0.1 hi0_n_4694.1) (om_b69853f0 hk0.2 s_nodes.2 mn_p0.2 hi0_n_4694.2)) dX7_bestOf_45 ?_
        refine lv_topi (fun x_4697 ex_4697 => ?_)
        have hG := hG.trans (lt_eq ex_4697)
        have kx_4697 : (fM_st x_4696.toNatClampNeg).toInt = x_4697.toInt := by rw [ex_4697]
        have cx_4697 : (fM_st (4 * p0.toNatClampNeg + z_4693.toNatClampNeg)).toInt = x_4697.toInt := by rw [show 4 * p0.toNatClampNeg + z_4693.toNatClampNeg = x_4696.toNatClampNeg from (om_4de36627 (ti_cl (x := p0) rfl hk0.1) (ti_cl (x := z_4693) rfl hi0_n_4694.1) (ti_cl (x := x_4696) vx_4696 (om_fc2812d4 hk0.1 hi0_n_4694.1)))]; exact kx_4697
        have wx_4697 : 0 ≤ x_4697.toInt ∧ x_4697.toInt < p0.toInt := row_lt r_st (i := z_4693.toNatClampNeg) (ti_cl (x := p0) rfl hk0.1) (ti_cl (x := z_4693) rfl hi0_n_4694.1) hk0.2 hi0_n_4694.2 (om_24300f0a (ti_cl (x := p0) rfl hk0.1) (ti_cl (x := z_4693) rfl hi0_n_4694.1)) cx_4697
        have hFc := va_freeI hD hS hA
        refine va_calli (va_runV (As := [.ref rM_st, .int x_4697]) (rest := []) ⟨hx, hb, hml, hown, hts⟩ (tX7_worthOf_x l dC dI _ oM iM_thrown rM_tape iM_taped iM_size iM_at iM_end iM_token iM_whole iM_nameSize iM_fault iM_place iM_trouble rM_letters iM_failed iM_hasCourt rM_r fM_r kM_r rM_fresh rM_told fM_told kM_told rM_read rM_st rM_undone rM_kept iM_undos iM_images rM_fresher iM_fresherSize iM_scale iM_night rM_heardRow rM_cutRow iM_breaths iM_cutMany iM_allBreaths rM_trial rM_words iM_fewestBreaths iM_orderMany iM_orderSum iM_leastOrder rM_often iM_setMany iM_someOf iM_allOf iM_allWeight iM_enoughWeight iM_worthSum iM_firstRest iM_leastDrawn rM_st fM_st kM_st x_4697 b_iM_taped b_iM_size b_iM_end b_iM_failed b_iM_hasCourt b_iM_undos b_iM_images b_iM_scale b_iM_breaths b_iM_cutMany (by assumption) (by assumption) (by assumption) (by assumption) ⟨wx_4697.1, (om_90a71968 hk0.2 wx_4697.2)⟩ hnt) (cwV 2 hts (wd_V wd_645 wd_646 wd_647 wd_5 (wd_c wd_648)) rfl rfl rfl dv_yX7_worthOf_2 ⟨Nat.le_of_ble_eq_true rfl, Nat.le_of_ble_eq_true rfl⟩) ⟨Pw.fb, recvX7 hK hP (q0 := 0) rfl, fun U hU hW => Pw.to hP hD hK hE hS hFc hU hW⟩ rfl rfl hl.1 rfl (lv_room (Nat.le_of_ble_eq_true rfl)) dX7_bestOf_46 ⟨Nat.le_of_ble_eq_true rfl, Nat.le_of_ble_eq_true rfl⟩) hS (fun q _ h => hFc q h) hFc (fun r u t H locs ht hvm hw hB hz1 hk1 hS => ?_)
        have hru9 := hw.2
        have hw := hw.1
        obtain ⟨hP, hD⟩ := Bw.goA (ws' := [(oc7 oM iM_thrown rM_tape iM_taped iM_size iM_at iM_end iM_token iM_whole iM_nameSize iM_fault iM_place iM_trouble rM_letters iM_failed iM_hasCourt rM_r rM_fresh rM_told rM_read rM_st rM_undone rM_kept iM_undos iM_images rM_fresher iM_fresherSize iM_scale iM_night rM_heardRow rM_cutRow iM_breaths iM_cutMany iM_allBreaths rM_trial rM_words iM_fewestBreaths iM_orderMany iM_orderSum iM_leastOrder rM_often iM_setMany iM_someOf iM_allOf iM_allWeight iM_enoughWeight iM_worthSum iM_firstRest iM_leastDrawn), (arI rM_r kM_r 287 fM_r), (arI rM_told kM_told 90 fM_told), (arI rM_st kM_st 90 fM_st)]) hB rfl ht hFc rfl
        clear hz1 hk1 hvm ht hB
        obtain ⟨x_4698, rfl⟩ : ∃ z, z = r := ⟨_, rfl⟩
        have hG := hG.trans (lt_eq hru9.symm)
        have lx_4698 := hw.2
        refine lv_aload_n hx hb dX7_bestOf_49 rfl (lv_at hl 1 rfl) ?_
        refine lv_aload_n hx hb dX7_bestOf_50 rfl (lv_at hl 1 rfl) ?_
        refine va_get (D := (dC, dI)) (ci := 7) (v := .ref rM_st) (C := RX7) (T := TX7) (N := 48) hx hb hts inX7 hown hK hP 0 rfl rfl 19 (by decide) (hts _ wd_159) (fun _ h9 => h9) rfl dX7_bestOf_51 ?_
        refine lv_iload_n hx hb dX7_bestOf_54 rfl (lv_at hl 2 rfl) ?_
        have hFc := va_freeI hD hS hA
        refine va_calli (va_runV (As := [.ref rM_st, .int p0]) (rest := [.int x_4698]) ⟨hx, hb, hml, hown, hts⟩ (tX7_worthOf_x l dC dI _ oM iM_thrown rM_tape iM_taped iM_size iM_at iM_end iM_token iM_whole iM_nameSize iM_fault iM_place iM_trouble rM_letters iM_failed iM_hasCourt rM_r fM_r kM_r rM_fresh rM_told fM_told kM_told rM_read rM_st rM_undone rM_kept iM_undos iM_images rM_fresher iM_fresherSize iM_scale iM_night rM_heardRow rM_cutRow iM_breaths iM_cutMany iM_allBreaths rM_trial rM_words iM_fewestBreaths iM_orderMany iM_orderSum iM_leastOrder rM_often iM_setMany iM_someOf iM_allOf iM_allWeight iM_enoughWeight iM_worthSum iM_firstRest iM_leastDrawn rM_st fM_st kM_st p0 b_iM_taped b_iM_size b_iM_end b_iM_failed b_iM_hasCourt b_iM_undos b_iM_images b_iM_scale b_iM_breaths b_iM_cutMany (by assumption) (by assumption) (by assumption) (by assumption) ⟨hk0.1, hk0.2⟩ hnt) (cwV 2 hts (wd_V wd_645 wd_646 wd_647 wd_5 (wd_c wd_648)) rfl rfl rfl dv_yX7_worthOf_2 ⟨Nat.le_of_ble_eq_true rfl, Nat.le_of_ble_eq_true rfl⟩) ⟨Pw.fb, recvX7 hK hP (q0 := 0) rfl, fun U hU hW => Pw.to hP hD hK hE hS hFc hU hW⟩ rfl rfl hl.1 rfl (lv_room (Nat.le_of_ble_eq_true rfl)) dX7_bestOf_55 ⟨Nat.le_of_ble_eq_true rfl, Nat.le_of_ble_eq_true rfl⟩) hS (fun q _ h => hFc q h) hFc (fun r u t H locs ht hvm hw hB hz1 hk1 hS => ?_)
        have hru9 := hw.2
        have hw := hw.1
        obtain ⟨hP, hD⟩ := Bw.goA (ws' := [(oc7 oM iM_thrown rM_tape iM_taped iM_size iM_at iM_end iM_token iM_whole iM_nameSize iM_fault iM_place iM_trouble rM_letters iM_failed iM_hasCourt rM_r rM_fresh rM_told rM_read rM_st rM_undone rM_kept iM_undos iM_images rM_fresher iM_fresherSize iM_scale iM_night rM_heardRow rM_cutRow iM_breaths iM_cutMany iM_allBreaths rM_trial rM_words iM_fewestBreaths iM_orderMany iM_orderSum iM_leastOrder rM_often iM_setMany iM_someOf iM_allOf iM_allWeight iM_enoughWeight iM_worthSum iM_firstRest iM_leastDrawn), (arI rM_r kM_r 287 fM_r), (arI rM_told kM_told 90 fM_told), (arI rM_st kM_st 90 fM_st)]) hB rfl ht hFc rfl
        clear hz1 hk1 hvm ht hB
        obtain ⟨x_4699, rfl⟩ : ∃ z, z = r := ⟨_, rfl⟩
        have hG := hG.trans (lt_eq hru9.symm)
        have lx_4699 := hw.2
        refine lv_icmp_eq (tgt := 67) hx hb dX7_bestOf_58 (by decide) (fun c_4700 => ?_) (fun c_4700 => ?_)
        · skip
          have hG := hG.trans (if_pos c_4700)
          have gc_4700 := ti_eq c_4700 rfl rfl
          refine lv_aload_n hx hb dX7_bestOf_67 rfl (lv_at hl 1 rfl) ?_
          refine va_get (D := (dC, dI)) (ci := 7) (v := .ref rM_st) (C := RX7) (T := TX7) (N := 48) hx hb hts inX7 hown hK hP 0 rfl rfl 19 (by decide) (hts _ wd_159) (fun _ h9 => h9) rfl dX7_bestOf_68 ?_
          refine lv_iconst (v := 4) hx hb dX7_bestOf_71 (by decide) ?_
          refine lv_iload_n hx hb dX7_bestOf_72 rfl (lv_at hl 2 rfl) ?_
          refine lv_imul hx hb dX7_bestOf_73 ?_
          refine lv_topi (fun x_4701 ex_4701 => ?_)
          have hG := hG.trans (lt_eq ex_4701)
          have vx_4701 : x_4701.toInt = 4 * p0.toInt := ti_mul ex_4701 kc_4 rfl (om_56b74365 hk0.1) (om_eac0354e hk0.2 s_nodes.2)
          refine lv_iload_n hx hb dX7_bestOf_74 rfl (lv_at hl 0 rfl) ?_
          refine lv_iadd hx hb dX7_bestOf_75 ?_
          refine lv_topi (fun x_4702 ex_4702 => ?_)
          have hG := hG.trans (lt_eq ex_4702)
          have vx_4702 : x_4702.toInt = 4 * p0.toInt + z_4693.toInt := om_5d0caf0f (ti_add ex_4702 vx_4701 rfl (om_056a216f hk0.1 hi0_n_4694.1) (om_e3219df6 hk0.2 s_nodes.2 mn_p0.2 hi0_n_4694.2))
          refine va_iald hx hb hK hP 3 2 rfl rfl (ti_in vx_4702 (om_fc2812d4 hk0.1 hi0_n_4694.1) (om_b69853f0 hk0.2 s_nodes.2 mn_p0.2 hi0_n_4694.2)) dX7_bestOf_76 ?_
          refine lv_topi (fun x_4703 ex_4703 => ?_)
          have hG := hG.trans (lt_eq ex_4703)
          have kx_4703 : (fM_st x_4702.toNatClampNeg).toInt = x_4703.toInt := by rw [ex_4703]
          have cx_4703 : (fM_st (4 * p0.toNatClampNeg + z_4693.toNatClampNeg)).toInt = x_4703.toInt := by rw [show 4 * p0.toNatClampNeg + z_4693.toNatClampNeg = x_4702.toNatClampNeg from (om_4de36627 (ti_cl (x := p0) rfl hk0.1) (ti_cl (x := z_4693) rfl hi0_n_4694.1) (ti_cl (x := x_4702) vx_4702 (om_fc2812d4 hk0.1 hi0_n_4694.1)))]; exact kx_4703
          have wx_4703 : 0 ≤ x_4703.toInt ∧ x_4703.toInt < p0.toInt := row_lt r_st (i := z_4693.toNatClampNeg) (ti_cl (x := p0) rfl hk0.1) (ti_cl (x := z_4693) rfl hi0_n_4694.1) hk0.2 hi0_n_4694.2 (om_24300f0a (ti_cl (x := p0) rfl hk0.1) (ti_cl (x := z_4693) rfl hi0_n_4694.1)) cx_4703
          exact wq_i hx hb hr 0 ⟨⟨trivial, (by first | omega | assumption)⟩, hG⟩ (fun t ht hW => Bw.to hP hD hK ht hW) hS dX7_bestOf_77 hlocks
        · skip
          have hG := hG.trans (if_neg c_4700)
          have gc_4700 := ti_ne c_4700 rfl rfl
          obtain ⟨x_4704, ex_4704⟩ : ∃ z : Int32, z = z_4693 + Int32.ofInt 1 := ⟨_, rfl⟩
          have hG := hG.trans (lt_eq ex_4704)
          have vx_4704 : x_4704.toInt = z_4693.toInt + 1 := ti_add (y := 1) ex_4704 rfl kc_1 (om_4e4fce7e hi0_n_4694.1) (om_0ca29412 mn_p0.2 hi0_n_4694.2)
          refine lv_iinc (v := x_4704) (lv' := [(2, .int x_4704), (0, .ref oM), (1, .int p0)]) hx hb dX7_bestOf_61 hl (k := 0) rfl ex_4704.symm (by decide) rfl (fun ls hl => ?_)
          refine lv_goto (tgt := 31) hx hb dX7_bestOf_64 (by decide) ?_
          have ex9 : BestJ fM_r fM_told fM_st iM_scale p0.toNatClampNeg x_4704.toInt := best_go (n := z_4693.toNatClampNeg) hi1_n_4694 (by have q1 := ti_cl (x := z_4693) rfl hi0_n_4694.1; omega) (by have q := cx_4697; rw [show 4 * p0.toNatClampNeg + z_4693.toNatClampNeg = 4 * p0.toNatClampNeg + z_4693.toNatClampNeg from by omega]; exact q) lx_4698 lx_4699 (by omega) (by omega)
          exact ih_n_4694 x_4704 _ _ _  (by have q9 := best_lt ex9; omega) ex9 (ms_lt hm_n_4694 (om_dd4ae0bc vx_4704) (om_d5382009 hi0_n_4694.2)) hG hP hD hS (lv_sub hl [0, 1, 2] rfl)
    have be9 := best_ex (ft := fM_told) (sc := iM_scale) r_R r_st r_wst (by omega) (k := p0.toNatClampNeg) (by omega) (by omega)
    have mm9 : 1 ≤ (fM_r (27 + p0.toNatClampNeg)).toInt := in_p0 (by omega)
    have bf9 : BestJ fM_r fM_told fM_st iM_scale p0.toNatClampNeg (0 : Int32).toInt := best_start (by have q := kc_0; omega) be9
    clear be9
    exact key_n_4694 ((((fM_r (27 + p0.toNatClampNeg)).toInt - (0 : Int32).toInt).toNat) + 1) 0 _ _ _  ⟨(om_b1de7dbe kc_0), (om_ca2cca41 mm9 kc_0)⟩ (by first | assumption | omega | decide) (Nat.lt_add_one _) hG hP hD hS hl
  · skip
    have hG := hG.trans (if_neg c_4692)
    have gc_4692 := ti_ne c_4692 rfl kc_1
    refine lv_aload_n hx hb dX7_bestOf_13 rfl (lv_at hl 0 rfl) ?_
    refine va_get (D := (dC, dI)) (ci := 7) (v := .ref rM_r) (C := RX7) (T := TX7) (N := 48) hx hb hts inX7 hown hK hP 0 rfl rfl 15 (by decide) (hts _ wd_155) (fun _ h9 => h9) rfl dX7_bestOf_14 ?_
    refine lv_bipush (v := 9) hx hb dX7_bestOf_17 (by decide) ?_
    refine lv_iload_n hx hb dX7_bestOf_19 rfl (lv_at hl 1 rfl) ?_
    refine lv_iadd hx hb dX7_bestOf_20 ?_
    refine lv_topi (fun x_4705 ex_4705 => ?_)
    have hG := hG.trans (lt_eq ex_4705)
    have vx_4705 : x_4705.toInt = p0.toInt + 9 := om_296ce4dd (ti_add ex_4705 kc_9 rfl (om_090bbef4 hk0.1) (om_79f05b99 hk0.2 s_nodes.2))
    refine va_iald hx hb hK hP 1 0 rfl rfl (ti_in vx_4705 (om_edbe2e4c hk0.1) (om_c4df49a1 hk0.2 s_nodes.2)) dX7_bestOf_21 ?_
    refine lv_topi (fun x_4706 ex_4706 => ?_)
    have hG := hG.trans (lt_eq ex_4706)
    have kx_4706 : (fM_r x_4705.toNatClampNeg).toInt = x_4706.toInt := by rw [ex_4706]
    have cx_4706 : (fM_r (9 + p0.toNatClampNeg)).toInt = x_4706.toInt := by rw [show 9 + p0.toNatClampNeg = x_4705.toNatClampNeg from (om_32f1c3e7 (ti_cl (x := p0) rfl hk0.1) (ti_cl (x := x_4705) vx_4705 (om_edbe2e4c hk0.1)))]; exact kx_4706
    have sx_4706 := r_R.kind x_4705.toNatClampNeg (om_462cc4af (ti_cl (x := x_4705) vx_4705 (om_edbe2e4c hk0.1)) hk0.1) (om_7afb9f20 (ti_cl (x := x_4705) vx_4705 (om_edbe2e4c hk0.1)) hk0.2 s_nodes.2)
    refine lv_iconst (v := 2) hx hb dX7_bestOf_22 (by decide) ?_
    refine lv_icmp_eq (tgt := 29) hx hb dX7_bestOf_23 (by decide) (fun c_4707 => ?_) (fun c_4707 => ?_)
    · skip
      have hG := hG.trans (if_pos c_4707)
      have gc_4707 := ti_eq c_4707 rfl kc_2
      refine lv_iconst (v := 0) hx hb dX7_bestOf_29 (by decide) ?_
      refine lv_istore_n (lv' := [(2, .int 0), (0, .ref oM), (1, .int p0)]) hx hb dX7_bestOf_30 rfl hl (by decide) rfl (fun ls hl => ?_)
      have hl := lv_sub hl (l' := [(2, .int 0), (0, .ref oM), (1, .int p0)]) [0, 1, 2] rfl
      have key_n_4709 : ∀ (n_4709 : Nat) (z_4708 : Int32) (H : Heap) (locs : List Loc) (ls : Array Slot), (0 ≤ z_4708.toInt ∧ z_4708.toInt < (fM_r (27 + p0.toNatClampNeg)).toInt) → (BestJ fM_r fM_told fM_st iM_scale p0.toNatClampNeg z_4708.toInt) → ((fM_r (27 + p0.toNatClampNeg)).toInt - z_4708.toInt).toNat < n_4709 → (PX7_bestOf fM_r fM_told fM_st iM_scale iM_night p0 = HX7_bestOf_0 fM_r fM_told fM_st iM_scale iM_night p0 n_4709 z_4708) → va_P (dC, dI) vwCl [(oc7 oM iM_thrown rM_tape iM_taped iM_size iM_at iM_end iM_token iM_whole iM_nameSize iM_fault iM_place iM_trouble rM_letters iM_failed iM_hasCourt rM_r rM_fresh rM_told rM_read rM_st rM_undone rM_kept iM_undos iM_images rM_fresher iM_fresherSize iM_scale iM_night rM_heardRow rM_cutRow iM_breaths iM_cutMany iM_allBreaths rM_trial rM_words iM_fewestBreaths iM_orderMany iM_orderSum iM_leastOrder rM_often iM_setMany iM_someOf iM_allOf iM_allWeight iM_enoughWeight iM_worthSum iM_firstRest iM_leastDrawn), (arI rM_r kM_r 287 fM_r), (arI rM_told kM_told 90 fM_told), (arI rM_st kM_st 90 fM_st)] H → va_D A [(oc7 oM iM_thrown rM_tape iM_taped iM_size iM_at iM_end iM_token iM_whole iM_nameSize iM_fault iM_place iM_trouble rM_letters iM_failed iM_hasCourt rM_r rM_fresh rM_told rM_read rM_st rM_undone rM_kept iM_undos iM_images rM_fresher iM_fresherSize iM_scale iM_night rM_heardRow rM_cutRow iM_breaths iM_cutMany iM_allBreaths rM_trial rM_words iM_fewestBreaths iM_orderMany iM_orderSum iM_leastOrder rM_often iM_setMany iM_someOf iM_allOf iM_allWeight iM_enoughWeight iM_worthSum iM_firstRest iM_leastDrawn), (arI rM_r kM_r 287 fM_r), (arI rM_told kM_told 90 fM_told), (arI rM_st kM_st 90 fM_st)] → va_S A s.heap H locs → lv_has ls 3 [(2, .int z_4708), (0, .ref oM), (1, .int p0)] → W p l e (headSpec (Cond.code yX7_bestOf cX7_bestOf 3 (some .int) :: wG) ({ frames := 21, cells := 0, slots := 0, locals := 564 })).room s m ([.ref oM, .int p0] : List Value).toArray below meth c H locs 0 0 (MQ below (va_Qi (fun (r : Int32) (_ : Nat) => (True ∧ (-2 ≤ r.toInt ∧ r.toInt < p0.toInt ∧ r.toInt ≤ 17)) ∧ PX7_bestOf fM_r fM_told fM_st iM_scale iM_night p0 = r) (fun (_ : Nat) (t : State) => Bw dC dI A [(oc7 oM iM_thrown rM_tape iM_taped iM_size iM_at iM_end iM_token iM_whole iM_nameSize iM_fault iM_place iM_trouble rM_letters iM_failed iM_hasCourt rM_r rM_fresh rM_told rM_read rM_st rM_undone rM_kept iM_undos iM_images rM_fresher iM_fresherSize iM_scale iM_night rM_heardRow rM_cutRow iM_breaths iM_cutMany iM_allBreaths rM_trial rM_words iM_fewestBreaths iM_orderMany iM_orderSum iM_leastOrder rM_often iM_setMany iM_someOf iM_allOf iM_allWeight iM_enoughWeight iM_worthSum iM_firstRest iM_leastDrawn), (arI rM_r kM_r 287 fM_r), (arI rM_told kM_told 90 fM_told), (arI rM_st kM_st 90 fM_st)] [(kM_r, .int), (kM_told, .int), (kM_st, .int)] t) A) ([.ref oM, .int p0] : List Value).toArray s 0 0 A) (F0 m 31 ls []) := by
        intro n_4709
        induction n_4709 with
        | zero => intro z_4708 H locs ls hi0_n_4709 hi1_n_4709 hm; exact absurd hm (Nat.not_lt_zero _)
        | succ n_4709 ih_n_4709 =>
          intro z_4708 H locs ls hi0_n_4709 hi1_n_4709 hm_n_4709 hG hP hD hS hl
          have hG := hG.trans (HX7_bestOf_0_eq _ _ _ _ _ _ _ _)
          refine lv_aload_n hx hb dX7_bestOf_31 rfl (lv_at hl 1 rfl) ?_
          refine lv_aload_n hx hb dX7_bestOf_32 rfl (lv_at hl 1 rfl) ?_
          refine va_get (D := (dC, dI)) (ci := 7) (v := .ref rM_st) (C := RX7) (T := TX7) (N := 48) hx hb hts inX7 hown hK hP 0 rfl rfl 19 (by decide) (hts _ wd_159) (fun _ h9 => h9) rfl dX7_bestOf_33 ?_
          refine lv_aload_n hx hb dX7_bestOf_36 rfl (lv_at hl 1 rfl) ?_
          refine va_get (D := (dC, dI)) (ci := 7) (v := .ref rM_st) (C := RX7) (T := TX7) (N := 48) hx hb hts inX7 hown hK hP 0 rfl rfl 19 (by decide) (hts _ wd_159) (fun _ h9 => h9) rfl dX7_bestOf_37 ?_
          refine lv_iconst (v := 4) hx hb dX7_bestOf_40 (by decide) ?_
          refine lv_iload_n hx hb dX7_bestOf_41 rfl (lv_at hl 2 rfl) ?_
          refine lv_imul hx hb dX7_bestOf_42 ?_
          refine lv_topi (fun x_4710 ex_4710 => ?_)
          have hG := hG.trans (lt_eq ex_4710)
          have vx_4710 : x_4710.toInt = 4 * p0.toInt := ti_mul ex_4710 kc_4 rfl (om_56b74365 hk0.1) (om_eac0354e hk0.2 s_nodes.2)
          refine lv_iload_n hx hb dX7_bestOf_43 rfl (lv_at hl 0 rfl) ?_
          refine lv_iadd hx hb dX7_bestOf_44 ?_
          refine lv_topi (fun x_4711 ex_4711 => ?_)
          have hG := hG.trans (lt_eq ex_4711)
          have vx_4711 : x_4711.toInt = 4 * p0.toInt + z_4708.toInt := om_5d0caf0f (ti_add ex_4711 vx_4710 rfl (om_056a216f hk0.1 hi0_n_4709.1) (om_e3219df6 hk0.2 s_nodes.2 mn_p0.2 hi0_n_4709.2))
          refine va_iald hx hb hK hP 3 2 rfl rfl (ti_in vx_4711 (om_fc2812d4 hk0.1 hi0_n_4709.1) (om_b69853f0 hk0.2 s_nodes.2 mn_p0.2 hi0_n_4709.2)) dX7_bestOf_45 ?_
          refine lv_topi (fun x_4712 ex_4712 => ?_)
          have hG := hG.trans (lt_eq ex_4712)
          have kx_4712 : (fM_st x_4711.toNatClampNeg).toInt = x_4712.toInt := by rw [ex_4712]
          have cx_4712 : (fM_st (4 * p0.toNatClampNeg + z_4708.toNatClampNeg)).toInt = x_4712.toInt := by rw [show 4 * p0.toNatClampNeg + z_4708.toNatClampNeg = x_4711.toNatClampNeg from (om_4de36627 (ti_cl (x := p0) rfl hk0.1) (ti_cl (x := z_4708) rfl hi0_n_4709.1) (ti_cl (x := x_4711) vx_4711 (om_fc2812d4 hk0.1 hi0_n_4709.1)))]; exact kx_4712
          have wx_4712 : 0 ≤ x_4712.toInt ∧ x_4712.toInt < p0.toInt := row_lt r_st (i := z_4708.toNatClampNeg) (ti_cl (x := p0) rfl hk0.1) (ti_cl (x := z_4708) rfl hi0_n_4709.1) hk0.2 hi0_n_4709.2 (om_24300f0a (ti_cl (x := p0) rfl hk0.1) (ti_cl (x := z_4708) rfl hi0_n_4709.1)) cx_4712
          have hFc := va_freeI hD hS hA
          refine va_calli (va_runV (As := [.ref rM_st, .int x_4712]) (rest := []) ⟨hx, hb, hml, hown, hts⟩ (tX7_worthOf_x l dC dI _ oM iM_thrown rM_tape iM_taped iM_size iM_at iM_end iM_token iM_whole iM_nameSize iM_fault iM_place iM_trouble rM_letters iM_failed iM_hasCourt rM_r fM_r kM_r rM_fresh rM_told fM_told kM_told rM_read rM_st rM_undone rM_kept iM_undos iM_images rM_fresher iM_fresherSize iM_scale iM_night rM_heardRow rM_cutRow iM_breaths iM_cutMany iM_allBreaths rM_trial rM_words iM_fewestBreaths iM_orderMany iM_orderSum iM_leastOrder rM_often iM_setMany iM_someOf iM_allOf iM_allWeight iM_enoughWeight iM_worthSum iM_firstRest iM_leastDrawn rM_st fM_st kM_st x_4712 b_iM_taped b_iM_size b_iM_end b_iM_failed b_iM_hasCourt b_iM_undos b_iM_images b_iM_scale b_iM_breaths b_iM_cutMany (by assumption) (by assumption) (by assumption) (by assumption) ⟨wx_4712.1, (om_90a71968 hk0.2 wx_4712.2)⟩ hnt) (cwV 2 hts (wd_V wd_645 wd_646 wd_647 wd_5 (wd_c wd_648)) rfl rfl rfl dv_yX7_worthOf_2 ⟨Nat.le_of_ble_eq_true rfl, Nat.le_of_ble_eq_true rfl⟩) ⟨Pw.fb, recvX7 hK hP (q0 := 0) rfl, fun U hU hW => Pw.to hP hD hK hE hS hFc hU hW⟩ rfl rfl hl.1 rfl (lv_room (Nat.le_of_ble_eq_true rfl)) dX7_bestOf_46 ⟨Nat.le_of_ble_eq_true rfl, Nat.le_of_ble_eq_true rfl⟩) hS (fun q _ h => hFc q h) hFc (fun r u t H locs ht hvm hw hB hz1 hk1 hS => ?_)
          have hru9 := hw.2
          have hw := hw.1
          obtain ⟨hP, hD⟩ := Bw.goA (ws' := [(oc7 oM iM_thrown rM_tape iM_taped iM_size iM_at iM_end iM_token iM_whole iM_nameSize iM_fault iM_place iM_trouble rM_letters iM_failed iM_hasCourt rM_r rM_fresh rM_told rM_read rM_st rM_undone rM_kept iM_undos iM_images rM_fresher iM_fresherSize iM_scale iM_night rM_heardRow rM_cutRow iM_breaths iM_cutMany iM_allBreaths rM_trial rM_words iM_fewestBreaths iM_orderMany iM_orderSum iM_leastOrder rM_often iM_setMany iM_someOf iM_allOf iM_allWeight iM_enoughWeight iM_worthSum iM_firstRest iM_leastDrawn), (arI rM_r kM_r 287 fM_r), (arI rM_told kM_told 90 fM_told), (arI rM_st kM_st 90 fM_st)]) hB rfl ht hFc rfl
          clear hz1 hk1 hvm ht hB
          obtain ⟨x_4713, rfl⟩ : ∃ z, z = r := ⟨_, rfl⟩
          have hG := hG.trans (lt_eq hru9.symm)
          have lx_4713 := hw.2
          refine lv_aload_n hx hb dX7_bestOf_49 rfl (lv_at hl 1 rfl) ?_
          refine lv_aload_n hx hb dX7_bestOf_50 rfl (lv_at hl 1 rfl) ?_
          refine va_get (D := (dC, dI)) (ci := 7) (v := .ref rM_st) (C := RX7) (T := TX7) (N := 48) hx hb hts inX7 hown hK hP 0 rfl rfl 19 (by decide) (hts _ wd_159) (fun _ h9 => h9) rfl dX7_bestOf_51 ?_
          refine lv_iload_n hx hb dX7_bestOf_54 rfl (lv_at hl 2 rfl) ?_
          have hFc := va_freeI hD hS hA
          refine va_calli (va_runV (As := [.ref rM_st, .int p0]) (rest := [.int x_4713]) ⟨hx, hb, hml, hown, hts⟩ (tX7_worthOf_x l dC dI _ oM iM_thrown rM_tape iM_taped iM_size iM_at iM_end iM_token iM_whole iM_nameSize iM_fault iM_place iM_trouble rM_letters iM_failed iM_hasCourt rM_r fM_r kM_r rM_fresh rM_told fM_told kM_told rM_read rM_st rM_undone rM_kept iM_undos iM_images rM_fresher iM_fresherSize iM_scale iM_night rM_heardRow rM_cutRow iM_breaths iM_cutMany iM_allBreaths rM_trial rM_words iM_fewestBreaths iM_orderMany iM_orderSum iM_leastOrder rM_often iM_setMany iM_someOf iM_allOf iM_allWeight iM_enoughWeight iM_worthSum iM_firstRest iM_leastDrawn rM_st fM_st kM_st p0 b_iM_taped b_iM_size b_iM_end b_iM_failed b_iM_hasCourt b_iM_undos b_iM_images b_iM_scale b_iM_breaths b_iM_cutMany (by assumption) (by assumption) (by assumption) (by assumption) ⟨hk0.1, hk0.2⟩ hnt) (cwV 2 hts (wd_V wd_645 wd_646 wd_647 wd_5 (wd_c wd_648)) rfl rfl rfl dv_yX7_worthOf_2 ⟨Nat.le_of_ble_eq_true rfl, Nat.le_of_ble_eq_true rfl⟩) ⟨Pw.fb, recvX7 hK hP (q0 := 0) rfl, fun U hU hW => Pw.to hP hD hK hE hS hFc hU hW⟩ rfl rfl hl.1 rfl (lv_room (Nat.le_of_ble_eq_true rfl)) dX7_bestOf_55 ⟨Nat.le_of_ble_eq_true rfl, Nat.le_of_ble_eq_true rfl⟩) hS (fun q _ h => hFc q h) hFc (fun r u t H locs ht hvm hw hB hz1 hk1 hS => ?_)
          have hru9 := hw.2
          have hw := hw.1
          obtain ⟨hP, hD⟩ := Bw.goA (ws' := [(oc7 oM iM_thrown rM_tape iM_taped iM_size iM_at iM_end iM_token iM_whole iM_nameSize iM_fault iM_place iM_trouble rM_letters iM_failed iM_hasCourt rM_r rM_fresh rM_told rM_read rM_st rM_undone rM_kept iM_undos iM_images rM_fresher iM_fresherSize iM_scale iM_night rM_heardRow rM_cutRow iM_breaths iM_cutMany iM_allBreaths rM_trial rM_words iM_fewestBreaths iM_orderMany iM_orderSum iM_leastOrder rM_often iM_setMany iM_someOf iM_allOf iM_allWeight iM_enoughWeight iM_worthSum iM_firstRest iM_leastDrawn), (arI rM_r kM_r 287 fM_r), (arI rM_told kM_told 90 fM_told), (arI rM_st kM_st 90 fM_st)]) hB rfl ht hFc rfl
          clear hz1 hk1 hvm ht hB
          obtain ⟨x_4714, rfl⟩ : ∃ z, z = r := ⟨_, rfl⟩
          have hG := hG.trans (lt_eq hru9.symm)
          have lx_4714 := hw.2
          refine lv_icmp_eq (tgt := 67) hx hb dX7_bestOf_58 (by decide) (fun c_4715 => ?_) (fun c_4715 => ?_)
          · skip
            have hG := hG.trans (if_pos c_4715)
            have gc_4715 := ti_eq c_4715 rfl rfl
            refine lv_aload_n hx hb dX7_bestOf_67 rfl (lv_at hl 1 rfl) ?_
            refine va_get (D := (dC, dI)) (ci := 7) (v := .ref rM_st) (C := RX7) (T := TX7) (N := 48) hx hb hts inX7 hown hK hP 0 rfl rfl 19 (by decide) (hts _ wd_159) (fun _ h9 => h9) rfl dX7_bestOf_68 ?_
            refine lv_iconst (v := 4) hx hb dX7_bestOf_71 (by decide) ?_
            refine lv_iload_n hx hb dX7_bestOf_72 rfl (lv_at hl 2 rfl) ?_
            refine lv_imul hx hb dX7_bestOf_73 ?_
            refine lv_topi (fun x_4716 ex_4716 => ?_)
            have hG := hG.trans (lt_eq ex_4716)
            have vx_4716 : x_4716.toInt = 4 * p0.toInt := ti_mul ex_4716 kc_4 rfl (om_56b74365 hk0.1) (om_eac0354e hk0.2 s_nodes.2)
            refine lv_iload_n hx hb dX7_bestOf_74 rfl (lv_at hl 0 rfl) ?_
            refine lv_iadd hx hb dX7_bestOf_75 ?_
            refine lv_topi (fun x_4717 ex_4717 => ?_)
            have hG := hG.trans (lt_eq ex_4717)
            have vx_4717 : x_4717.toInt = 4 * p0.toInt + z_4708.toInt := om_5d0caf0f (ti_add ex_4717 vx_4716 rfl (om_056a216f hk0.1 hi0_n_4709.1) (om_e3219df6 hk0.2 s_nodes.2 mn_p0.2 hi0_n_4709.2))
            refine va_iald hx hb hK hP 3 2 rfl rfl (ti_in vx_4717 (om_fc2812d4 hk0.1 hi0_n_4709.1) (om_b69853f0 hk0.2 s_nodes.2 mn_p0.2 hi0_n_4709.2)) dX7_bestOf_76 ?_
            refine lv_topi (fun x_4718 ex_4718 => ?_)
            have hG := hG.trans (lt_eq ex_4718)
            have kx_4718 : (fM_st x_4717.toNatClampNeg).toInt = x_4718.toInt := by rw [ex_4718]
            have cx_4718 : (fM_st (4 * p0.toNatClampNeg + z_4708.toNatClampNeg)).toInt = x_4718.toInt := by rw [show 4 * p0.toNatClampNeg + z_4708.toNatClampNeg = x_4717.toNatClampNeg from (om_4de36627 (ti_cl (x := p0) rfl hk0.1) (ti_cl (x := z_4708) rfl hi0_n_4709.1) (ti_cl (x := x_4717) vx_4717 (om_fc2812d4 hk0.1 hi0_n_4709.1)))]; exact kx_4718
            have wx_4718 : 0 ≤ x_4718.toInt ∧ x_4718.toInt < p0.toInt := row_lt r_st (i := z_4708.toNatClampNeg) (ti_cl (x := p0) rfl hk0.1) (ti_cl (x := z_4708) rfl hi0_n_4709.1) hk0.2 hi0_n_4709.2 (om_24300f0a (ti_cl (x := p0) rfl hk0.1) (ti_cl (x := z_4708) rfl hi0_n_4709.1)) cx_4718
            exact wq_i hx hb hr 0 ⟨⟨trivial, (by first | omega | assumption)⟩, hG⟩ (fun t ht hW => Bw.to hP hD hK ht hW) hS dX7_bestOf_77 hlocks
          · skip
            have hG := hG.trans (if_neg c_4715)
            have gc_4715 := ti_ne c_4715 rfl rfl
            obtain ⟨x_4719, ex_4719⟩ : ∃ z : Int32, z = z_4708 + Int32.ofInt 1 := ⟨_, rfl⟩
            have hG := hG.trans (lt_eq ex_4719)
            have vx_4719 : x_4719.toInt = z_4708.toInt + 1 := ti_add (y := 1) ex_4719 rfl kc_1 (om_4e4fce7e hi0_n_4709.1) (om_0ca29412 mn_p0.2 hi0_n_4709.2)
            refine lv_iinc (v := x_4719) (lv' := [(2, .int x_4719), (0, .ref oM), (1, .int p0)]) hx hb dX7_bestOf_61 hl (k := 0) rfl ex_4719.symm (by decide) rfl (fun ls hl => ?_)
            refine lv_goto (tgt := 31) hx hb dX7_bestOf_64 (by decide) ?_
            have ex9 : BestJ fM_r fM_told fM_st iM_scale p0.toNatClampNeg x_4719.toInt := best_go (n := z_4708.toNatClampNeg) hi1_n_4709 (by have q1 := ti_cl (x := z_4708) rfl hi0_n_4709.1; omega) (by have q := cx_4712; rw [show 4 * p0.toNatClampNeg + z_4708.toNatClampNeg = 4 * p0.toNatClampNeg + z_4708.toNatClampNeg from by omega]; exact q) lx_4713 lx_4714 (by omega) (by omega)
            exact ih_n_4709 x_4719 _ _ _  (by have q9 := best_lt ex9; omega) ex9 (ms_lt hm_n_4709 (om_dd4ae0bc vx_4719) (om_d5382009 hi0_n_4709.2)) hG hP hD hS (lv_sub hl [0, 1, 2] rfl)
      have be9 := best_ex (ft := fM_told) (sc := iM_scale) r_R r_st r_wst (by omega) (k := p0.toNatClampNeg) (by omega) (by omega)
      have mm9 : 1 ≤ (fM_r (27 + p0.toNatClampNeg)).toInt := in_p0 (by omega)
      have bf9 : BestJ fM_r fM_told fM_st iM_scale p0.toNatClampNeg (0 : Int32).toInt := best_start (by have q := kc_0; omega) be9
      clear be9
      exact key_n_4709 ((((fM_r (27 + p0.toNatClampNeg)).toInt - (0 : Int32).toInt).toNat) + 1) 0 _ _ _  ⟨(om_b1de7dbe kc_0), (om_ca2cca41 mm9 kc_0)⟩ (by first | assumption | omega | decide) (Nat.lt_add_one _) hG hP hD hS hl
    · skip
      have hG := hG.trans (if_neg c_4707)
      have gc_4707 := ti_ne c_4707 rfl kc_2
      refine lv_bipush (v := (-2)) hx hb dX7_bestOf_26 (by decide) ?_
      exact wq_i hx hb hr 0 ⟨⟨trivial, (by have q := kc_m2; first | omega | assumption)⟩, hG⟩ (fun t ht hW => Bw.to hP hD hK ht hW) hS dX7_bestOf_28 hlocks
