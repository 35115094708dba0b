set_option maxHeartbeats 4000000 in
set_option maxRecDepth 100000 in
theorem tX7_try_4 (l : Launch) (dC : Nat → ClassId) (dI : Nat → Nat → Nat) (sz : Nat) (oM : Nat) (iM_thrown : Int32) (rM_tape : Nat) (iM_taped : Int32) (iM_size : Int32) (iM_at : Int32) (iM_end : Int32) (iM_token : Int32) (iM_whole : Int32) (iM_nameSize : Int32) (iM_fault : Int32) (iM_place : Int32) (iM_trouble : Int32) (rM_letters : Nat) (iM_failed : Int32) (iM_hasCourt : Int32) (rM_r : Nat) (fM_r : Nat → Int32) (kM_r : ClassId) (rM_fresh : Nat) (rM_told : Nat) (fM_told : Nat → Int32) (kM_told : ClassId) (rM_read : Nat) (rM_st : Nat) (fM_st : Nat → Int32) (kM_st : ClassId) (rM_undone : Nat) (rM_kept : Nat) (iM_undos : Int32) (iM_images : Int32) (rM_fresher : Nat) (iM_fresherSize : Int32) (iM_scale : Int32) (iM_night : Int32) (rM_heardRow : Nat) (fM_heardRow : Nat → Int32) (kM_heardRow : ClassId) (rM_cutRow : Nat) (fM_cutRow : Nat → Int32) (kM_cutRow : ClassId) (iM_breaths : Int32) (iM_cutMany : Int32) (iM_allBreaths : Int32) (rM_trial : Nat) (fM_trial : Nat → Int32) (kM_trial : ClassId) (rM_words : Nat) (iM_fewestBreaths : Int32) (iM_orderMany : Int32) (iM_orderSum : Int32) (iM_leastOrder : Int32) (rM_often : Nat) (iM_setMany : Int32) (iM_someOf : Int32) (iM_allOf : Int32) (iM_allWeight : Int64) (iM_enoughWeight : Int64) (iM_worthSum : Int64) (iM_firstRest : Int32) (iM_leastDrawn : Int32) (p0 : Int32) (p1 : Int32) (b_iM_taped : 0 ≤ iM_taped.toInt ∧ iM_taped.toInt ≤ 900) (b_iM_size : 0 ≤ iM_size.toInt ∧ iM_size.toInt ≤ 900) (b_iM_end : 0 ≤ iM_end.toInt ∧ iM_end.toInt ≤ 900) (b_iM_failed : 0 ≤ iM_failed.toInt ∧ iM_failed.toInt ≤ 1) (b_iM_hasCourt : 0 ≤ iM_hasCourt.toInt ∧ iM_hasCourt.toInt ≤ 1) (b_iM_undos : 0 ≤ iM_undos.toInt ∧ iM_undos.toInt ≤ 16) (b_iM_images : 0 ≤ iM_images.toInt ∧ iM_images.toInt ≤ 3) (b_iM_scale : 1 ≤ iM_scale.toInt ∧ iM_scale.toInt ≤ 1296) (b_iM_breaths : 0 ≤ iM_breaths.toInt ∧ iM_breaths.toInt ≤ 399) (b_iM_cutMany : 0 ≤ iM_cutMany.toInt ∧ iM_cutMany.toInt ≤ 399) (r_R : ROk fM_r) (r_C : iM_hasCourt.toInt ≤ 0 ∨ (1 ≤ (fM_r 1).toInt ∧ 0 ≤ (fM_r 6).toInt ∧ (fM_r 6).toInt < (fM_r 1).toInt)) (r_st : RowOk fM_r fM_st) (r_told : RowOk fM_r fM_told) (r_wst : WorOk fM_st) (hk0 : 0 ≤ p0.toInt ∧ p0.toInt < (fM_r 1).toInt) (hth : 0 ≤ (fM_r 6).toInt ∧ (fM_r 6).toInt < (fM_r 1).toInt) (him : 4 ≤ (fM_r (27 + p0.toNatClampNeg)).toInt) (hp1 : 0 ≤ p1.toInt ∧ p1.toInt ≤ 15) (hcn : cntP (bitN p1) (fM_r (27 + p0.toNatClampNeg)).toInt.toNat = 4) (htr : TryOk fM_r fM_st fM_trial p0.toNatClampNeg 4 p1) (hom : 0 ≤ iM_orderMany.toInt ∧ iM_orderMany.toInt ≤ 999) : Met l yX7_tryOrders (Cond.code yX7_tryOrders cX7_tryOrders 5 none :: wG) ({ frames := 22, cells := 0, slots := 0, locals := 624 }) (va_Pc [.ref oM, .int p0, .int 4, .int p1] (Pw dC dI sz [(oc7 oM iM_thrown rM_tape iM_taped iM_size iM_at iM_end iM_token iM_whole iM_nameSize iM_fault iM_place iM_trouble rM_letters iM_failed iM_hasCourt rM_r rM_fresh rM_told rM_read rM_st rM_undone rM_kept iM_undos iM_images rM_fresher iM_fresherSize iM_scale iM_night rM_heardRow rM_cutRow iM_breaths iM_cutMany iM_allBreaths rM_trial rM_words iM_fewestBreaths iM_orderMany iM_orderSum iM_leastOrder rM_often iM_setMany iM_someOf iM_allOf iM_allWeight iM_enoughWeight iM_worthSum iM_firstRest iM_leastDrawn), (arI rM_r kM_r 287 fM_r), (arI rM_told kM_told 90 fM_told), (arI rM_st kM_st 90 fM_st), (arI rM_heardRow kM_heardRow 400 fM_heardRow), (arI rM_cutRow kM_cutRow 800 fM_cutRow), (arI rM_trial kM_trial 90 fM_trial)] [(kM_r, .int), (kM_told, .int), (kM_st, .int), (kM_heardRow, .int), (kM_cutRow, .int), (kM_trial, .int)])) (va_Qv (fun (_ : Nat) => True) (fun (_ : Nat) (t : State) => ∃ (niM_breaths : Int32) (niM_cutMany : Int32) (niM_orderMany : Int32) (niM_orderSum : Int32) (niM_leastOrder : Int32) (nfM_heardRow : Nat → Int32) (nfM_cutRow : Nat → Int32), (0 ≤ niM_breaths.toInt ∧ niM_breaths.toInt ≤ 399) ∧ (0 ≤ niM_cutMany.toInt ∧ niM_cutMany.toInt ≤ 399) ∧ (iM_orderMany.toInt + 1 ≤ niM_orderMany.toInt ∧ niM_orderMany.toInt ≤ iM_orderMany.toInt + 1) ∧ (PX7_try_4 fM_r fM_told iM_scale fM_heardRow fM_cutRow fM_trial iM_orderMany iM_orderSum iM_leastOrder p0 = (niM_breaths, niM_cutMany, niM_orderMany, niM_orderSum, niM_leastOrder, nfM_heardRow, nfM_cutRow)) ∧ Bw dC dI (va_A [(oc7 oM iM_thrown rM_tape iM_taped iM_size iM_at iM_end iM_token iM_whole iM_nameSize iM_fault iM_place iM_trouble rM_letters iM_failed iM_hasCourt rM_r rM_fresh rM_told rM_read rM_st rM_undone rM_kept iM_undos iM_images rM_fresher iM_fresherSize iM_scale iM_night rM_heardRow rM_cutRow iM_breaths iM_cutMany iM_allBreaths rM_trial rM_words iM_fewestBreaths iM_orderMany iM_orderSum iM_leastOrder rM_often iM_setMany iM_someOf iM_allOf iM_allWeight iM_enoughWeight iM_worthSum iM_firstRest iM_leastDrawn), (arI rM_r kM_r 287 fM_r), (arI rM_told kM_told 90 fM_told), (arI rM_st kM_st 90 fM_st), (arI rM_heardRow kM_heardRow 400 fM_heardRow), (arI rM_cutRow kM_cutRow 800 fM_cutRow), (arI rM_trial kM_trial 90 fM_trial)] sz) [(oc7 oM iM_thrown rM_tape iM_taped iM_size iM_at iM_end iM_token iM_whole iM_nameSize iM_fault iM_place iM_trouble rM_letters iM_failed iM_hasCourt rM_r rM_fresh rM_told rM_read rM_st rM_undone rM_kept iM_undos iM_images rM_fresher iM_fresherSize iM_scale iM_night rM_heardRow rM_cutRow niM_breaths niM_cutMany iM_allBreaths rM_trial rM_words iM_fewestBreaths niM_orderMany niM_orderSum niM_leastOrder rM_often iM_setMany iM_someOf iM_allOf iM_allWeight iM_enoughWeight iM_worthSum iM_firstRest iM_leastDrawn), (arI rM_r kM_r 287 fM_r), (arI rM_told kM_told 90 fM_told), (arI rM_st kM_st 90 fM_st), (arI rM_heardRow kM_heardRow 400 nfM_heardRow), (arI rM_cutRow kM_cutRow 800 nfM_cutRow), (arI rM_trial kM_trial 90 fM_trial)] [(kM_r, .int), (kM_told, .int), (kM_st, .int), (kM_heardRow, .int), (kM_cutRow, .int), (kM_trial, .int)] t) (va_A [(oc7 oM iM_thrown rM_tape iM_taped iM_size iM_at iM_end iM_token iM_whole iM_nameSize iM_fault iM_place iM_trouble rM_letters iM_failed iM_hasCourt rM_r rM_fresh rM_told rM_read rM_st rM_undone rM_kept iM_undos iM_images rM_fresher iM_fresherSize iM_scale iM_night rM_heardRow rM_cutRow iM_breaths iM_cutMany iM_allBreaths rM_trial rM_words iM_fewestBreaths iM_orderMany iM_orderSum iM_leastOrder rM_often iM_setMany iM_someOf iM_allOf iM_allWeight iM_enoughWeight iM_worthSum iM_firstRest iM_leastDrawn), (arI rM_r kM_r 287 fM_r), (arI rM_told kM_told 90 fM_told), (arI rM_st kM_st 90 fM_st), (arI rM_heardRow kM_heardRow 400 fM_heardRow), (arI rM_cutRow kM_cutRow 800 fM_cutRow), (arI rM_trial kM_trial 90 fM_trial)] sz)) 0 0 (va_A [(oc7 oM iM_thrown rM_tape iM_taped iM_size iM_at iM_end iM_token iM_whole iM_nameSize iM_fault iM_place iM_trouble rM_letters iM_failed iM_hasCourt rM_r rM_fresh rM_told rM_read rM_st rM_undone rM_kept iM_undos iM_images rM_fresher iM_fresherSize iM_scale iM_night rM_heardRow rM_cutRow iM_breaths iM_cutMany iM_allBreaths rM_trial rM_words iM_fewestBreaths iM_orderMany iM_orderSum iM_leastOrder rM_often iM_setMany iM_someOf iM_allOf iM_allWeight iM_enoughWeight iM_worthSum iM_firstRest iM_leastDrawn), (arI rM_r kM_r 287 fM_r), (arI rM_told kM_told 90 fM_told), (arI rM_st kM_st 90 fM_st), (arI rM_heardRow kM_heardRow 400 fM_heardRow), (arI rM_cutRow kM_cutRow 800 fM_cutRow), (arI rM_trial kM_trial 90 fM_trial)] sz) := by
  refine Met.ofW (cc := cX7_tryOrders) (maxL := 5) (ret := none) pnX7 rfl ?_
  intro p e s m args below meth c s₁ B hml hv
  obtain ⟨rfl, hsz, hP, hK, hD0, hE⟩ := hv
  have hx := B.exec
  have hb := B.bytes
  have hr := B.returns
  have hts : ∀ w ∈ wG, w.before ([.ref oM, .int p0, .int 4, .int p1] : List Value).toArray s = true := fun w h => atoms_spec (ws := Cond.code yX7_tryOrders cX7_tryOrders 5 none :: wG) B.pre w (List.mem_cons_of_mem _ h)
  have hown : s.vm.findClass RX7 = some m.cls := own_of B.named rfl
  have hlocks := B.notSynchronized
  subst hsz
  have hD := hD0.self (sz := s.heap.size)
  generalize hAe : va_A [(oc7 oM iM_thrown rM_tape iM_taped iM_size iM_at iM_end iM_token iM_whole iM_nameSize iM_fault iM_place iM_trouble rM_letters iM_failed iM_hasCourt rM_r rM_fresh rM_told rM_read rM_st rM_undone rM_kept iM_undos iM_images rM_fresher iM_fresherSize iM_scale iM_night rM_heardRow rM_cutRow iM_breaths iM_cutMany iM_allBreaths rM_trial rM_words iM_fewestBreaths iM_orderMany iM_orderSum iM_leastOrder rM_often iM_setMany iM_someOf iM_allOf iM_allWeight iM_enoughWeight iM_worthSum iM_firstRest iM_leastDrawn), (arI rM_r kM_r 287 fM_r), (arI rM_told kM_told 90 fM_told), (arI rM_st kM_st 90 fM_st), (arI rM_heardRow kM_heardRow 400 fM_heardRow), (arI rM_cutRow kM_cutRow 800 fM_cutRow), (arI rM_trial kM_trial 90 fM_trial)] s.heap.size = A at hD hE ⊢
  have hA : ∀ q : Nat, s.heap.size ≤ q → A q := fun q h => by rw [← hAe]; exact Or.inr h
  have hS : va_S A s.heap s.heap [] := va_S.rf
  have hl := lv_entry ([.ref oM, .int p0, .int 4, .int p1]) (n := 5) (Nat.le_of_ble_eq_true rfl)
  rw [lg_entry_eq]
  generalize (lg_sl ([.ref oM, .int p0, .int 4, .int p1]) ++ List.replicate (5 - (lg_sl ([.ref oM, .int p0, .int 4, .int p1])).length) Slot.unset).toArray = ls at hl ⊢
  have hl : lv_has ls 5 [(0, .ref oM), (1, .int p0), (2, .int 4), (3, .int p1)] := hl
  have hG := PX7_try_4_eq fM_r fM_told iM_scale fM_heardRow fM_cutRow fM_trial iM_orderMany iM_orderSum iM_leastOrder p0
  have s_slips := r_R.slips
  have s_nodes := r_R.nodes
  have s_uns := r_R.uns
  have q_p0 := ti_cl (x := p0) rfl hk0.1
  have mn_p0 := r_R.many (27 + p0.toNatClampNeg) (Nat.le_add_right _ _) (om_6c263690 (ti_cl (x := p0) rfl hk0.1) hk0.2 s_nodes.2)
  have kn_p0 := r_R.kind (9 + p0.toNatClampNeg) (Nat.le_add_right _ _) (om_57ce868b (ti_cl (x := p0) rfl hk0.1) hk0.2 s_nodes.2)
  have in_p0 := r_R.inner p0.toNatClampNeg (om_05d4ad0a (ti_cl (x := p0) rfl hk0.1) hk0.2)
  have rowt : ((4 : Nat) : Int) = (fM_r (27 + p0.toNatClampNeg)).toInt → RowOk fM_r fM_trial := fun h9 => TryOk.row r_R r_st htr (by omega) h9
  refine lv_iload_n hx hb dX7_tryOrders_0 rfl (lv_at hl 2 rfl) ?_
  refine lv_aload_n hx hb dX7_tryOrders_1 rfl (lv_at hl 0 rfl) ?_
  refine va_get (D := (dC, dI)) (ci := 7) (v := .ref rM_r) (C := RX7) (T := TX7) (N := 48) hx hb hts inX7 hown hK hP 0 rfl rfl 15 (by decide) (hts _ wd_155) (fun _ h9 => h9) rfl dX7_tryOrders_2 ?_
  refine lv_bipush (v := 27) hx hb dX7_tryOrders_5 (by decide) ?_
  refine lv_iload_n hx hb dX7_tryOrders_7 rfl (lv_at hl 1 rfl) ?_
  refine lv_iadd hx hb dX7_tryOrders_8 ?_
  refine lv_topi (fun x_3791 ex_3791 => ?_)
  have hG := hG.trans (lt_eq ex_3791)
  have vx_3791 : x_3791.toInt = p0.toInt + 27 := om_6c48219a (ti_add ex_3791 kc_27 rfl (om_edd3f7cf hk0.1) (om_cf6669ce hk0.2 s_nodes.2))
  refine va_iald hx hb hK hP 1 0 rfl rfl (ti_in vx_3791 (om_b4b48b7f hk0.1) (om_420abfc6 hk0.2 s_nodes.2)) dX7_tryOrders_9 ?_
  refine lv_topi (fun x_3792 ex_3792 => ?_)
  have hG := hG.trans (lt_eq ex_3792)
  have kx_3792 : (fM_r x_3791.toNatClampNeg).toInt = x_3792.toInt := by rw [ex_3792]
  have cx_3792 : (fM_r (27 + p0.toNatClampNeg)).toInt = x_3792.toInt := by rw [show 27 + p0.toNatClampNeg = x_3791.toNatClampNeg from (om_779a3124 (ti_cl (x := p0) rfl hk0.1) (ti_cl (x := x_3791) vx_3791 (om_b4b48b7f hk0.1)))]; exact kx_3792
  have sx_3792 := r_R.many x_3791.toNatClampNeg (om_ab5399c3 (ti_cl (x := x_3791) vx_3791 (om_b4b48b7f hk0.1)) hk0.1) (om_3b68d876 (ti_cl (x := x_3791) vx_3791 (om_b4b48b7f hk0.1)) hk0.2 s_nodes.2)
  refine lv_icmp_ne (tgt := 67) hx hb dX7_tryOrders_10 (by decide) (fun c_3793 => ?_) (fun c_3793 => ?_)
  · skip
    have hG := hG.trans (if_neg c_3793)
    have gc_3793 := ti_ne c_3793 kc_4 rfl
    exact (om_d29e507c gc_3793 him cx_3792 mn_p0.2).elim
  · skip
    have hG := hG.trans (if_pos c_3793)
    have gc_3793 := ti_eq c_3793 kc_4 rfl
    refine lv_aload_n hx hb dX7_tryOrders_13 rfl (lv_at hl 0 rfl) ?_
    refine lv_aload_n hx hb dX7_tryOrders_14 rfl (lv_at hl 0 rfl) ?_
    refine va_get (D := (dC, dI)) (ci := 7) (v := .ref rM_trial) (C := RX7) (T := TX7) (N := 48) hx hb hts inX7 hown hK hP 0 rfl rfl 33 (by decide) (hts _ wd_167) (fun _ h9 => h9) rfl dX7_tryOrders_15 ?_
    have hMs := ml_of hD [true, true, true, false, true, true, true] (wc := [(oc7 oM iM_thrown rM_tape iM_taped iM_size iM_at iM_end iM_token iM_whole iM_nameSize iM_fault iM_place iM_trouble rM_letters iM_failed iM_hasCourt rM_r rM_fresh rM_told rM_read rM_st rM_undone rM_kept iM_undos iM_images rM_fresher iM_fresherSize iM_scale iM_night rM_heardRow rM_cutRow iM_breaths iM_cutMany iM_allBreaths rM_trial rM_words iM_fewestBreaths iM_orderMany iM_orderSum iM_leastOrder rM_often iM_setMany iM_someOf iM_allOf iM_allWeight iM_enoughWeight iM_worthSum iM_firstRest iM_leastDrawn), (arI rM_r kM_r 287 fM_r), (arI rM_told kM_told 90 fM_told), (arI rM_heardRow kM_heardRow 400 fM_heardRow), (arI rM_cutRow kM_cutRow 800 fM_cutRow), (arI rM_trial kM_trial 90 fM_trial)]) rfl
    have hFc := va_freeM hD hS hA _ hMs
    refine va_calli (va_runV (As := [.ref rM_trial]) (rest := []) ⟨hx, hb, hml, hown, hts⟩ (tX7_breathsBy l dC dI _ oM iM_thrown rM_tape iM_taped iM_size iM_at iM_end iM_token iM_whole iM_nameSize iM_fault iM_place iM_trouble rM_letters iM_failed iM_hasCourt rM_r fM_r kM_r rM_fresh rM_told fM_told kM_told rM_read rM_st rM_undone rM_kept iM_undos iM_images rM_fresher iM_fresherSize iM_scale iM_night rM_heardRow fM_heardRow kM_heardRow rM_cutRow fM_cutRow kM_cutRow iM_breaths iM_cutMany iM_allBreaths rM_trial rM_words iM_fewestBreaths iM_orderMany iM_orderSum iM_leastOrder rM_often iM_setMany iM_someOf iM_allOf iM_allWeight iM_enoughWeight iM_worthSum iM_firstRest iM_leastDrawn rM_trial fM_trial kM_trial b_iM_taped b_iM_size b_iM_end b_iM_failed b_iM_hasCourt b_iM_undos b_iM_images b_iM_scale b_iM_breaths b_iM_cutMany (by assumption) (by assumption) (by assumption) (by first | assumption | exact rowt (by omega)) ⟨hth.1, hth.2⟩) (cwV 1 hts (wd_V wd_769 wd_770 wd_771 wd_5 (wd_c wd_772)) rfl rfl rfl dv_yX7_breathsBy_1 ⟨Nat.le_of_ble_eq_true rfl, Nat.le_of_ble_eq_true rfl⟩) ⟨Pw.fb, recvX7 hK hP (q0 := 0) rfl, fun U hU hW => Pw.to (hP.ms _ hMs) (hD.ms _ hMs) (hK.ms [true, true, false, true, true, true] rfl) hE hS hFc hU hW⟩ rfl rfl hl.1 rfl (lv_room (Nat.le_of_ble_eq_true rfl)) dX7_tryOrders_18 ⟨Nat.le_of_ble_eq_true rfl, Nat.le_of_ble_eq_true rfl⟩) hS (fun q _ h => hFc q h) hFc (fun r u t H locs ht hvm hw hB hz1 hk1 hS => ?_)
    have hru9 := hw.2
    have hw := hw.1
    refine ex_4_3 hB (fun x_3794 x_3795 f_3796 f_3797 b_x_3794 b_x_3795 e_x_3794_0 hB => ?_)
    obtain ⟨hP, hD⟩ := Bw.goN (ws' := [(oc7 oM iM_thrown rM_tape iM_taped iM_size iM_at iM_end iM_token iM_whole iM_nameSize iM_fault iM_place iM_trouble rM_letters iM_failed iM_hasCourt rM_r rM_fresh rM_told rM_read rM_st rM_undone rM_kept iM_undos iM_images rM_fresher iM_fresherSize iM_scale iM_night rM_heardRow rM_cutRow x_3794 x_3795 iM_allBreaths rM_trial rM_words iM_fewestBreaths iM_orderMany iM_orderSum iM_leastOrder rM_often iM_setMany iM_someOf iM_allOf iM_allWeight iM_enoughWeight iM_worthSum iM_firstRest iM_leastDrawn), (arI rM_r kM_r 287 fM_r), (arI rM_told kM_told 90 fM_told), (arI rM_st kM_st 90 fM_st), (arI rM_heardRow kM_heardRow 400 f_3796), (arI rM_cutRow kM_cutRow 800 f_3797), (arI rM_trial kM_trial 90 fM_trial)]) hB rfl ht hP hD _ hMs hk1 hFc rfl
    clear hz1 hk1 hvm ht hB hMs
    rw [← hru9] at e_x_3794_0
    obtain ⟨x_3798, rfl⟩ : ∃ z, z = r := ⟨_, rfl⟩
    have hG := hG.trans (un5_eq e_x_3794_0)
    have ux_3798 := hw.2
    refine lv_istore (lv' := [(4, .int x_3798), (0, .ref oM), (1, .int p0), (2, .int 4), (3, .int p1)]) hx hb dX7_tryOrders_21 hl (by decide) rfl (fun ls hl => ?_)
    refine lv_aload_n hx hb dX7_tryOrders_23 rfl (lv_at hl 1 rfl) ?_
    refine lv_dup hx hb dX7_tryOrders_24 rfl ?_
    refine va_get (D := (dC, dI)) (ci := 7) (v := .int iM_orderMany) (C := RX7) (T := TX7) (N := 48) hx hb hts inX7 hown hK hP 0 rfl rfl 36 (by decide) (hts _ wd_1065) (fun _ h9 => h9) rfl dX7_tryOrders_25 ?_
    refine lv_iconst (v := 1) hx hb dX7_tryOrders_28 (by decide) ?_
    refine lv_iadd hx hb dX7_tryOrders_29 ?_
    refine lv_topi (fun x_3799 ex_3799 => ?_)
    have hG := hG.trans (lt_eq ex_3799)
    have vx_3799 : x_3799.toInt = iM_orderMany.toInt + 1 := ti_add ex_3799 rfl kc_1 (om_4e4fce7e hom.1) (om_1ba63ebc hom.2)
    refine va_put (D := (dC, dI)) (ci := 7) (v := .int x_3799) (ty := .int) (C := RX7) (T := TX7) (N := 48) hx hb hts inX7 tyX7 tyX7_ok nmX7 hown hK hP hD hS 0 rfl rfl 36 (by decide) (hts _ wd_1065) (fun _ h9 => h9) rfl (by decide +kernel) rfl rfl (Nat.le_of_ble_eq_true rfl) dX7_tryOrders_30 (fun H locs hP hD hS => ?_)
    obtain ⟨hP, hD⟩ := wl2 (ws' := [(oc7 oM iM_thrown rM_tape iM_taped iM_size iM_at iM_end iM_token iM_whole iM_nameSize iM_fault iM_place iM_trouble rM_letters iM_failed iM_hasCourt rM_r rM_fresh rM_told rM_read rM_st rM_undone rM_kept iM_undos iM_images rM_fresher iM_fresherSize iM_scale iM_night rM_heardRow rM_cutRow x_3794 x_3795 iM_allBreaths rM_trial rM_words iM_fewestBreaths x_3799 iM_orderSum iM_leastOrder rM_often iM_setMany iM_someOf iM_allOf iM_allWeight iM_enoughWeight iM_worthSum iM_firstRest iM_leastDrawn), (arI rM_r kM_r 287 fM_r), (arI rM_told kM_told 90 fM_told), (arI rM_st kM_st 90 fM_st), (arI rM_heardRow kM_heardRow 400 f_3796), (arI rM_cutRow kM_cutRow 800 f_3797), (arI rM_trial kM_trial 90 fM_trial)]) hP hD rfl
    refine lv_aload_n hx hb dX7_tryOrders_33 rfl (lv_at hl 1 rfl) ?_
    refine lv_dup hx hb dX7_tryOrders_34 rfl ?_
    refine va_get (D := (dC, dI)) (ci := 7) (v := .int iM_orderSum) (C := RX7) (T := TX7) (N := 48) hx hb hts inX7 hown hK hP 0 rfl rfl 37 (by decide) (hts _ wd_1064) (fun _ h9 => h9) rfl dX7_tryOrders_35 ?_
    refine lv_iload hx hb dX7_tryOrders_38 (lv_at hl 0 rfl) ?_
    refine lv_iadd hx hb dX7_tryOrders_40 ?_
    refine lv_topi (fun x_3800 ex_3800 => ?_)
    have hG := hG.trans (lt_eq ex_3800)
    refine va_put (D := (dC, dI)) (ci := 7) (v := .int x_3800) (ty := .int) (C := RX7) (T := TX7) (N := 48) hx hb hts inX7 tyX7 tyX7_ok nmX7 hown hK hP hD hS 0 rfl rfl 37 (by decide) (hts _ wd_1064) (fun _ h9 => h9) rfl (by decide +kernel) rfl rfl (Nat.le_of_ble_eq_true rfl) dX7_tryOrders_41 (fun H locs hP hD hS => ?_)
    obtain ⟨hP, hD⟩ := wl2 (ws' := [(oc7 oM iM_thrown rM_tape iM_taped iM_size iM_at iM_end iM_token iM_whole iM_nameSize iM_fault iM_place iM_trouble rM_letters iM_failed iM_hasCourt rM_r rM_fresh rM_told rM_read rM_st rM_undone rM_kept iM_undos iM_images rM_fresher iM_fresherSize iM_scale iM_night rM_heardRow rM_cutRow x_3794 x_3795 iM_allBreaths rM_trial rM_words iM_fewestBreaths x_3799 x_3800 iM_leastOrder rM_often iM_setMany iM_someOf iM_allOf iM_allWeight iM_enoughWeight iM_worthSum iM_firstRest iM_leastDrawn), (arI rM_r kM_r 287 fM_r), (arI rM_told kM_told 90 fM_told), (arI rM_st kM_st 90 fM_st), (arI rM_heardRow kM_heardRow 400 f_3796), (arI rM_cutRow kM_cutRow 800 f_3797), (arI rM_trial kM_trial 90 fM_trial)]) hP hD rfl
    refine lv_aload_n hx hb dX7_tryOrders_44 rfl (lv_at hl 1 rfl) ?_
    refine lv_iload hx hb dX7_tryOrders_45 (lv_at hl 0 rfl) ?_
    refine lv_aload_n hx hb dX7_tryOrders_47 rfl (lv_at hl 1 rfl) ?_
    refine va_get (D := (dC, dI)) (ci := 7) (v := .int iM_leastOrder) (C := RX7) (T := TX7) (N := 48) hx hb hts inX7 hown hK hP 0 rfl rfl 38 (by decide) (hts _ wd_1070) (fun _ h9 => h9) rfl dX7_tryOrders_48 ?_
    refine lv_icmp_ge (tgt := 59) hx hb dX7_tryOrders_51 (by decide) (fun c_3801 => ?_) (fun c_3801 => ?_)
    · skip
      have hG := hG.trans (if_pos c_3801)
      have gc_3801 := ti_le c_3801 rfl rfl
      refine lv_aload_n hx hb dX7_tryOrders_59 rfl (lv_at hl 1 rfl) ?_
      refine va_get (D := (dC, dI)) (ci := 7) (v := .int iM_leastOrder) (C := RX7) (T := TX7) (N := 48) hx hb hts inX7 hown hK hP 0 rfl rfl 38 (by decide) (hts _ wd_1070) (fun _ h9 => h9) rfl dX7_tryOrders_60 ?_
      refine va_put (D := (dC, dI)) (ci := 7) (v := .int iM_leastOrder) (ty := .int) (C := RX7) (T := TX7) (N := 48) hx hb hts inX7 tyX7 tyX7_ok nmX7 hown hK hP hD hS 0 rfl rfl 38 (by decide) (hts _ wd_1070) (fun _ h9 => h9) rfl (by decide +kernel) rfl rfl (Nat.le_of_ble_eq_true rfl) dX7_tryOrders_63 (fun H locs hP hD hS => ?_)
      obtain ⟨hP, hD⟩ := wl2 (ws' := [(oc7 oM iM_thrown rM_tape iM_taped iM_size iM_at iM_end iM_token iM_whole iM_nameSize iM_fault iM_place iM_trouble rM_letters iM_failed iM_hasCourt rM_r rM_fresh rM_told rM_read rM_st rM_undone rM_kept iM_undos iM_images rM_fresher iM_fresherSize iM_scale iM_night rM_heardRow rM_cutRow x_3794 x_3795 iM_allBreaths rM_trial rM_words iM_fewestBreaths x_3799 x_3800 iM_leastOrder rM_often iM_setMany iM_someOf iM_allOf iM_allWeight iM_enoughWeight iM_worthSum iM_firstRest iM_leastDrawn), (arI rM_r kM_r 287 fM_r), (arI rM_told kM_told 90 fM_told), (arI rM_st kM_st 90 fM_st), (arI rM_heardRow kM_heardRow 400 f_3796), (arI rM_cutRow kM_cutRow 800 f_3797), (arI rM_trial kM_trial 90 fM_trial)]) hP hD rfl
      exact wq_v hx hb hr 0 trivial (fun t ht hW => ⟨x_3794, x_3795, x_3799, x_3800, iM_leastOrder, f_3796, f_3797, b_x_3794, b_x_3795, ⟨(om_25096cef vx_3799), (om_6ad8cf7f vx_3799)⟩, hG, Bw.to hP hD hK ht hW⟩) hS dX7_tryOrders_66 hlocks
    · skip
      have hG := hG.trans (if_neg c_3801)
      have gc_3801 := ti_nle c_3801 rfl rfl
      refine lv_iload hx hb dX7_tryOrders_54 (lv_at hl 0 rfl) ?_
      refine lv_goto (tgt := 63) hx hb dX7_tryOrders_56 (by decide) ?_
      refine va_put (D := (dC, dI)) (ci := 7) (v := .int x_3798) (ty := .int) (C := RX7) (T := TX7) (N := 48) hx hb hts inX7 tyX7 tyX7_ok nmX7 hown hK hP hD hS 0 rfl rfl 38 (by decide) (hts _ wd_1070) (fun _ h9 => h9) rfl (by decide +kernel) rfl rfl (Nat.le_of_ble_eq_true rfl) dX7_tryOrders_63 (fun H locs hP hD hS => ?_)
      obtain ⟨hP, hD⟩ := wl2 (ws' := [(oc7 oM iM_thrown rM_tape iM_taped iM_size iM_at iM_end iM_token iM_whole iM_nameSize iM_fault iM_place iM_trouble rM_letters iM_failed iM_hasCourt rM_r rM_fresh rM_told rM_read rM_st rM_undone rM_kept iM_undos iM_images rM_fresher iM_fresherSize iM_scale iM_night rM_heardRow rM_cutRow x_3794 x_3795 iM_allBreaths rM_trial rM_words iM_fewestBreaths x_3799 x_3800 x_3798 rM_often iM_setMany iM_someOf iM_allOf iM_allWeight iM_enoughWeight iM_worthSum iM_firstRest iM_leastDrawn), (arI rM_r kM_r 287 fM_r), (arI rM_told kM_told 90 fM_told), (arI rM_st kM_st 90 fM_st), (arI rM_heardRow kM_heardRow 400 f_3796), (arI rM_cutRow kM_cutRow 800 f_3797), (arI rM_trial kM_trial 90 fM_trial)]) hP hD rfl
      exact wq_v hx hb hr 0 trivial (fun t ht hW => ⟨x_3794, x_3795, x_3799, x_3800, x_3798, f_3796, f_3797, b_x_3794, b_x_3795, ⟨(om_25096cef vx_3799), (om_6ad8cf7f vx_3799)⟩, hG, Bw.to hP hD hK ht hW⟩) hS dX7_tryOrders_66 hlocks
set_option maxHeartbeats 4000000 in
set_option maxRecDepth 100000 in
theorem tX7_try_3 (l : Launch) (dC : Nat → ClassId) (dI : Nat → Nat → Nat) (sz : Nat) (oM : Nat) (iM_thrown : Int32) (rM_tape : Nat) (iM_taped : Int32) (iM_size : Int32) (iM_at : Int32) (iM_end : Int32) (iM_token : Int32) (iM_whole : Int32) (iM_nameSize : Int32) (iM_fault : Int32) (iM_place : Int32) (iM_trouble : Int32) (rM_letters : Nat) (iM_failed : Int32) (iM_hasCourt : Int32) (rM_r : Nat) (fM_r : Nat → Int32) (kM_r : ClassId) (rM_fresh : Nat) (rM_told : Nat) (fM_told : Nat → Int32) (kM_told : ClassId) (rM_read : Nat) (rM_st : Nat) (fM_st : Nat → Int32) (kM_st : ClassId) (rM_undone : Nat) (rM_kept : Nat) (iM_undos : Int32) (iM_images : Int32) (rM_fresher : Nat) (iM_fresherSize : Int32) (iM_scale : Int32) (iM_night : Int32) (rM_heardRow : Nat) (fM_heardRow : Nat → Int32) (kM_heardRow : ClassId) (rM_cutRow : Nat) (fM_cutRow : Nat → Int32) (kM_cutRow : ClassId) (iM_breaths : Int32) (iM_cutMany : Int32) (iM_allBreaths : Int32) (rM_trial : Nat) (fM_trial : Nat → Int32) (kM_trial : ClassId) (rM_words : Nat) (iM_fewestBreaths : Int32) (iM_orderMany : Int32) (iM_orderSum : Int32) (iM_leastOrder : Int32) (rM_often : Nat) (iM_setMany : Int32) (iM_someOf : Int32) (iM_allOf : Int32) (iM_allWeight : Int64) (iM_enoughWeight : Int64) (iM_worthSum : Int64) (iM_firstRest : Int32) (iM_leastDrawn : Int32) (p0 : Int32) (p1 : Int32) (b_iM_taped : 0 ≤ iM_taped.toInt ∧ iM_taped.toInt ≤ 900) (b_iM_size : 0 ≤ iM_size.toInt ∧ iM_size.toInt ≤ 900) (b_iM_end : 0 ≤ iM_end.toInt ∧ iM_end.toInt ≤ 900) (b_iM_failed : 0 ≤ iM_failed.toInt ∧ iM_failed.toInt ≤ 1) (b_iM_hasCourt : 0 ≤ iM_hasCourt.toInt ∧ iM_hasCourt.toInt ≤ 1) (b_iM_undos : 0 ≤ iM_undos.toInt ∧ iM_undos.toInt ≤ 16) (b_iM_images : 0 ≤ iM_images.toInt ∧ iM_images.toInt ≤ 3) (b_iM_scale : 1 ≤ iM_scale.toInt ∧ iM_scale.toInt ≤ 1296) (b_iM_breaths : 0 ≤ iM_breaths.toInt ∧ iM_breaths.toInt ≤ 399) (b_iM_cutMany : 0 ≤ iM_cutMany.toInt ∧ iM_cutMany.toInt ≤ 399) (r_R : ROk fM_r) (r_C : iM_hasCourt.toInt ≤ 0 ∨ (1 ≤ (fM_r 1).toInt ∧ 0 ≤ (fM_r 6).toInt ∧ (fM_r 6).toInt < (fM_r 1).toInt)) (r_st : RowOk fM_r fM_st) (r_told : RowOk fM_r fM_told) (r_wst : WorOk fM_st) (hk0 : 0 ≤ p0.toInt ∧ p0.toInt < (fM_r 1).toInt) (hth : 0 ≤ (fM_r 6).toInt ∧ (fM_r 6).toInt < (fM_r 1).toInt) (him : 3 ≤ (fM_r (27 + p0.toNatClampNeg)).toInt) (hp1 : 0 ≤ p1.toInt ∧ p1.toInt ≤ 15) (hcn : cntP (bitN p1) (fM_r (27 + p0.toNatClampNeg)).toInt.toNat = 3) (htr : TryOk fM_r fM_st fM_trial p0.toNatClampNeg 3 p1) (hom : 0 ≤ iM_orderMany.toInt ∧ iM_orderMany.toInt ≤ 996) : Met l yX7_tryOrders (Cond.code yX7_tryOrders cX7_tryOrders 5 none :: wG) ({ frames := 23, cells := 0, slots := 0, locals := 648 }) (va_Pc [.ref oM, .int p0, .int 3, .int p1] (Pw dC dI sz [(oc7 oM iM_thrown rM_tape iM_taped iM_size iM_at iM_end iM_token iM_whole iM_nameSize iM_fault iM_place iM_trouble rM_letters iM_failed iM_hasCourt rM_r rM_fresh rM_told rM_read rM_st rM_undone rM_kept iM_undos iM_images rM_fresher iM_fresherSize iM_scale iM_night rM_heardRow rM_cutRow iM_breaths iM_cutMany iM_allBreaths rM_trial rM_words iM_fewestBreaths iM_orderMany iM_orderSum iM_leastOrder rM_often iM_setMany iM_someOf iM_allOf iM_allWeight iM_enoughWeight iM_worthSum iM_firstRest iM_leastDrawn), (arI rM_r kM_r 287 fM_r), (arI rM_told kM_told 90 fM_told), (arI rM_st kM_st 90 fM_st), (arI rM_heardRow kM_heardRow 400 fM_heardRow), (arI rM_cutRow kM_cutRow 800 fM_cutRow), (arI rM_trial kM_trial 90 fM_trial)] [(kM_r, .int), (kM_told, .int), (kM_st, .int), (kM_heardRow, .int), (kM_cutRow, .int), (kM_trial, .int)])) (va_Qv (fun (_ : Nat) => True) (fun (_ : Nat) (t : State) => ∃ (niM_breaths : Int32) (niM_cutMany : Int32) (niM_orderMany : Int32) (niM_orderSum : Int32) (niM_leastOrder : Int32) (nfM_heardRow : Nat → Int32) (nfM_cutRow : Nat → Int32) (nfM_trial : Nat → Int32), (0 ≤ niM_breaths.toInt ∧ niM_breaths.toInt ≤ 399) ∧ (0 ≤ niM_cutMany.toInt ∧ niM_cutMany.toInt ≤ 399) ∧ (iM_orderMany.toInt + 1 ≤ niM_orderMany.toInt ∧ niM_orderMany.toInt ≤ iM_orderMany.toInt + 4) ∧ (KeepI fM_trial p0.toNatClampNeg 3 nfM_trial) ∧ (PX7_try_3 fM_r fM_told fM_st iM_scale fM_heardRow fM_cutRow iM_breaths iM_cutMany fM_trial iM_orderMany iM_orderSum iM_leastOrder p0 p1 = (niM_breaths, niM_cutMany, niM_orderMany, niM_orderSum, niM_leastOrder, nfM_heardRow, nfM_cutRow, nfM_trial)) ∧ Bw dC dI (va_A [(oc7 oM iM_thrown rM_tape iM_taped iM_size iM_at iM_end iM_token iM_whole iM_nameSize iM_fault iM_place iM_trouble rM_letters iM_failed iM_hasCourt rM_r rM_fresh rM_told rM_read rM_st rM_undone rM_kept iM_undos iM_images rM_fresher iM_fresherSize iM_scale iM_night rM_heardRow rM_cutRow iM_breaths iM_cutMany iM_allBreaths rM_trial rM_words iM_fewestBreaths iM_orderMany iM_orderSum iM_leastOrder rM_often iM_setMany iM_someOf iM_allOf iM_allWeight iM_enoughWeight iM_worthSum iM_firstRest iM_leastDrawn), (arI rM_r kM_r 287 fM_r), (arI rM_told kM_told 90 fM_told), (arI rM_st kM_st 90 fM_st), (arI rM_heardRow kM_heardRow 400 fM_heardRow), (arI rM_cutRow kM_cutRow 800 fM_cutRow), (arI rM_trial kM_trial 90 fM_trial)] sz) [(oc7 oM iM_thrown rM_tape iM_taped iM_size iM_at iM_end iM_token iM_whole iM_nameSize iM_fault iM_place iM_trouble rM_letters iM_failed iM_hasCourt rM_r rM_fresh rM_told rM_read rM_st rM_undone rM_kept iM_undos iM_images rM_fresher iM_fresherSize iM_scale iM_night rM_heardRow rM_cutRow niM_breaths niM_cutMany iM_allBreaths rM_trial rM_words iM_fewestBreaths niM_orderMany niM_orderSum niM_leastOrder rM_often iM_setMany iM_someOf iM_allOf iM_allWeight iM_enoughWeight iM_worthSum iM_firstRest iM_leastDrawn), (arI rM_r kM_r 287 fM_r), (arI rM_told kM_told 90 fM_told), (arI rM_st kM_st 90 fM_st), (arI rM_heardRow kM_heardRow 400 nfM_heardRow), (arI rM_cutRow kM_cutRow 800 nfM_cutRow), (arI rM_trial kM_trial 90 nfM_trial)] [(kM_r, .int), (kM_told, .int), (kM_st, .int), (kM_heardRow, .int), (kM_cutRow, .int), (kM_trial, .int)] t) (va_A [(oc7 oM iM_thrown rM_tape iM_taped iM_size iM_at iM_end iM_token iM_whole iM_nameSize iM_fault iM_place iM_trouble rM_letters iM_failed iM_hasCourt rM_r rM_fresh rM_told rM_read rM_st rM_undone rM_kept iM_undos iM_images rM_fresher iM_fresherSize iM_scale iM_night rM_heardRow rM_cutRow iM_breaths iM_cutMany iM_allBreaths rM_trial rM_words iM_fewestBreaths iM_orderMany iM_orderSum iM_leastOrder rM_often iM_setMany iM_someOf iM_allOf iM_allWeight iM_enoughWeight iM_worthSum iM_firstRest iM_leastDrawn), (arI rM_r kM_r 287 fM_r), (arI rM_told kM_told 90 fM_told), (arI rM_st kM_st 90 fM_st), (arI rM_heardRow kM_heardRow 400 fM_heardRow), (arI rM_cutRow kM_cutRow 800 fM_cutRow), (arI rM_trial kM_trial 90 fM_trial)] sz)) 0 0 (va_A [(oc7 oM iM_thrown rM_tape iM_taped iM_size iM_at iM_end iM_token iM_whole iM_nameSize iM_fault iM_place iM_trouble rM_letters iM_failed iM_hasCourt rM_r rM_fresh rM_told rM_read rM_st rM_undone rM_kept iM_undos iM_images rM_fresher iM_fresherSize iM_scale iM_night rM_heardRow rM_cutRow iM_breaths iM_cutMany iM_allBreaths rM_trial rM_words iM_fewestBreaths iM_orderMany iM_orderSum iM_leastOrder rM_often iM_setMany iM_someOf iM_allOf iM_allWeight iM_enoughWeight iM_worthSum iM_firstRest iM_leastDrawn), (arI rM_r kM_r 287 fM_r), (arI rM_told kM_told 90 fM_told), (arI rM_st kM_st 90 fM_st), (arI rM_heardRow kM_heardRow 400 fM_heardRow), (arI rM_cutRow kM_cutRow 800 fM_cutRow), (arI rM_trial kM_trial 90 fM_trial)] sz) := by
  refine Met.ofW (cc := cX7_tryOrders) (maxL := 5) (ret := none) pnX7 rfl ?_
  intro p e s m args below meth c s₁ B hml hv
  obtain ⟨rfl, hsz, hP, hK, hD0, hE⟩ := hv
  have hx := B.exec
  have hb := B.bytes
  have hr := B.returns
  have hts : ∀ w ∈ wG, w.before ([.ref oM, .int p0, .int 3, .int p1] : List Value).toArray s = true := fun w h => atoms_spec (ws := Cond.code yX7_tryOrders cX7_tryOrders 5 none :: wG) B.pre w (List.mem_cons_of_mem _ h)
  have hown : s.vm.findClass RX7 = some m.cls := own_of B.named rfl
  have hlocks := B.notSynchronized
  subst hsz
  have hD := hD0.self (sz := s.heap.size)
  generalize hAe : va_A [(oc7 oM iM_thrown rM_tape iM_taped iM_size iM_at iM_end iM_token iM_whole iM_nameSize iM_fault iM_place iM_trouble rM_letters iM_failed iM_hasCourt rM_r rM_fresh rM_told rM_read rM_st rM_undone rM_kept iM_undos iM_images rM_fresher iM_fresherSize iM_scale iM_night rM_heardRow rM_cutRow iM_breaths iM_cutMany iM_allBreaths rM_trial rM_words iM_fewestBreaths iM_orderMany iM_orderSum iM_leastOrder rM_often iM_setMany iM_someOf iM_allOf iM_allWeight iM_enoughWeight iM_worthSum iM_firstRest iM_leastDrawn), (arI rM_r kM_r 287 fM_r), (arI rM_told kM_told 90 fM_told), (arI rM_st kM_st 90 fM_st), (arI rM_heardRow kM_heardRow 400 fM_heardRow), (arI rM_cutRow kM_cutRow 800 fM_cutRow), (arI rM_trial kM_trial 90 fM_trial)] s.heap.size = A at hD hE ⊢
  have hA : ∀ q : Nat, s.heap.size ≤ q → A q := fun q h => by rw [← hAe]; exact Or.inr h
  have hS : va_S A s.heap s.heap [] := va_S.rf
  have hl := lv_entry ([.ref oM, .int p0, .int 3, .int p1]) (n := 5) (Nat.le_of_ble_eq_true rfl)
  rw [lg_entry_eq]
  generalize (lg_sl ([.ref oM, .int p0, .int 3, .int p1]) ++ List.replicate (5 - (lg_sl ([.ref oM, .int p0, .int 3, .int p1])).length) Slot.unset).toArray = ls at hl ⊢
  have hl : lv_has ls 5 [(0, .ref oM), (1, .int p0), (2, .int 3), (3, .int p1)] := hl
  have hG := PX7_try_3_eq fM_r fM_told fM_st iM_scale fM_heardRow fM_cutRow iM_breaths iM_cutMany fM_trial iM_orderMany iM_orderSum iM_leastOrder p0 p1
  have s_slips := r_R.slips
  have s_nodes := r_R.nodes
  have s_uns := r_R.uns
  have q_p0 := ti_cl (x := p0) rfl hk0.1
  have mn_p0 := r_R.many (27 + p0.toNatClampNeg) (Nat.le_add_right _ _) (om_6c263690 (ti_cl (x := p0) rfl hk0.1) hk0.2 s_nodes.2)
  have kn_p0 := r_R.kind (9 + p0.toNatClampNeg) (Nat.le_add_right _ _) (om_57ce868b (ti_cl (x := p0) rfl hk0.1) hk0.2 s_nodes.2)
  have in_p0 := r_R.inner p0.toNatClampNeg (om_05d4ad0a (ti_cl (x := p0) rfl hk0.1) hk0.2)
  have rowt : ((3 : Nat) : Int) = (fM_r (27 + p0.toNatClampNeg)).toInt → RowOk fM_r fM_trial := fun h9 => TryOk.row r_R r_st htr (by omega) h9
  refine lv_iload_n hx hb dX7_tryOrders_0 rfl (lv_at hl 2 rfl) ?_
  refine lv_aload_n hx hb dX7_tryOrders_1 rfl (lv_at hl 0 rfl) ?_
  refine va_get (D := (dC, dI)) (ci := 7) (v := .ref rM_r) (C := RX7) (T := TX7) (N := 48) hx hb hts inX7 hown hK hP 0 rfl rfl 15 (by decide) (hts _ wd_155) (fun _ h9 => h9) rfl dX7_tryOrders_2 ?_
  refine lv_bipush (v := 27) hx hb dX7_tryOrders_5 (by decide) ?_
  refine lv_iload_n hx hb dX7_tryOrders_7 rfl (lv_at hl 1 rfl) ?_
  refine lv_iadd hx hb dX7_tryOrders_8 ?_
  refine lv_topi (fun x_3878 ex_3878 => ?_)
  have hG := hG.trans (lt_eq ex_3878)
  have vx_3878 : x_3878.toInt = p0.toInt + 27 := om_6c48219a (ti_add ex_3878 kc_27 rfl (om_edd3f7cf hk0.1) (om_cf6669ce hk0.2 s_nodes.2))
  refine va_iald hx hb hK hP 1 0 rfl rfl (ti_in vx_3878 (om_b4b48b7f hk0.1) (om_420abfc6 hk0.2 s_nodes.2)) dX7_tryOrders_9 ?_
  refine lv_topi (fun x_3879 ex_3879 => ?_)
  have hG := hG.trans (lt_eq ex_3879)
  have kx_3879 : (fM_r x_3878.toNatClampNeg).toInt = x_3879.toInt := by rw [ex_3879]
  have cx_3879 : (fM_r (27 + p0.toNatClampNeg)).toInt = x_3879.toInt := by rw [show 27 + p0.toNatClampNeg = x_3878.toNatClampNeg from (om_779a3124 (ti_cl (x := p0) rfl hk0.1) (ti_cl (x := x_3878) vx_3878 (om_b4b48b7f hk0.1)))]; exact kx_3879
  have sx_3879 := r_R.many x_3878.toNatClampNeg (om_ab5399c3 (ti_cl (x := x_3878) vx_3878 (om_b4b48b7f hk0.1)) hk0.1) (om_3b68d876 (ti_cl (x := x_3878) vx_3878 (om_b4b48b7f hk0.1)) hk0.2 s_nodes.2)
  refine lv_icmp_ne (tgt := 67) hx hb dX7_tryOrders_10 (by decide) (fun c_3880 => ?_) (fun c_3880 => ?_)
  · skip
    have hG := hG.trans (if_neg c_3880)
    have gc_3880 := ti_ne c_3880 kc_3 rfl
    refine lv_iconst (v := 0) hx hb dX7_tryOrders_67 (by decide) ?_
    refine lv_istore (lv' := [(4, .int 0), (0, .ref oM), (1, .int p0), (2, .int 3), (3, .int p1)]) hx hb dX7_tryOrders_68 hl (by decide) rfl (fun ls hl => ?_)
    have hl := lv_sub hl (l' := [(4, .int 0), (0, .ref oM), (1, .int p0), (2, .int 3), (3, .int p1)]) [0, 1, 2, 3, 4] rfl
    have key_n_3890 : ∀ (n_3890 : Nat) (z_3881 : Int32) (z_3882 : Int32) (z_3883 : Int32) (z_3884 : Int32) (z_3885 : Int32) (z_3886 : Int32) (f_3887 : Nat → Int32) (f_3888 : Nat → Int32) (f_3889 : Nat → Int32) (H : Heap) (locs : List Loc) (ls : Array Slot), (0 ≤ z_3883.toInt ∧ z_3883.toInt ≤ 399) → (0 ≤ z_3884.toInt ∧ z_3884.toInt ≤ 399) → (0 ≤ z_3881.toInt ∧ z_3881.toInt ≤ (fM_r (27 + p0.toNatClampNeg)).toInt) → (KeepI fM_trial p0.toNatClampNeg 3 f_3887) → (iM_orderMany.toInt ≤ z_3882.toInt ∧ z_3882.toInt ≤ iM_orderMany.toInt + 1 * z_3881.toInt) → (iM_orderMany.toInt + 1 ≤ z_3882.toInt ∨ ∀ q : Nat, (q : Int) < z_3881.toInt → bitN p1 q) → ((fM_r (27 + p0.toNatClampNeg)).toInt - z_3881.toInt).toNat < n_3890 → (PX7_try_3 fM_r fM_told fM_st iM_scale fM_heardRow fM_cutRow iM_breaths iM_cutMany fM_trial iM_orderMany iM_orderSum iM_leastOrder p0 p1 = HX7_try_3_0 fM_r fM_told fM_st iM_scale p0 p1 n_3890 z_3881 z_3882 z_3883 z_3884 z_3885 z_3886 f_3887 f_3888 f_3889) → va_P (dC, dI) vwCl [(oc7 oM iM_thrown rM_tape iM_taped iM_size iM_at iM_end iM_token iM_whole iM_nameSize iM_fault iM_place iM_trouble rM_letters iM_failed iM_hasCourt rM_r rM_fresh rM_told rM_read rM_st rM_undone rM_kept iM_undos iM_images rM_fresher iM_fresherSize iM_scale iM_night rM_heardRow rM_cutRow z_3883 z_3884 iM_allBreaths rM_trial rM_words iM_fewestBreaths z_3882 z_3885 z_3886 rM_often iM_setMany iM_someOf iM_allOf iM_allWeight iM_enoughWeight iM_worthSum iM_firstRest iM_leastDrawn), (arI rM_r kM_r 287 fM_r), (arI rM_told kM_told 90 fM_told), (arI rM_st kM_st 90 fM_st), (arI rM_heardRow kM_heardRow 400 f_3888), (arI rM_cutRow kM_cutRow 800 f_3889), (arI rM_trial kM_trial 90 f_3887)] H → va_D A [(oc7 oM iM_thrown rM_tape iM_taped iM_size iM_at iM_end iM_token iM_whole iM_nameSize iM_fault iM_place iM_trouble rM_letters iM_failed iM_hasCourt rM_r rM_fresh rM_told rM_read rM_st rM_undone rM_kept iM_undos iM_images rM_fresher iM_fresherSize iM_scale iM_night rM_heardRow rM_cutRow z_3883 z_3884 iM_allBreaths rM_trial rM_words iM_fewestBreaths z_3882 z_3885 z_3886 rM_often iM_setMany iM_someOf iM_allOf iM_allWeight iM_enoughWeight iM_worthSum iM_firstRest iM_leastDrawn), (arI rM_r kM_r 287 fM_r), (arI rM_told kM_told 90 fM_told), (arI rM_st kM_st 90 fM_st), (arI rM_heardRow kM_heardRow 400 f_3888), (arI rM_cutRow kM_cutRow 800 f_3889), (arI rM_trial kM_trial 90 f_3887)] → va_S A s.heap H locs → lv_has ls 5 [(4, .int z_3881), (0, .ref oM), (1, .int p0), (2, .int 3), (3, .int p1)] → W p l e (headSpec (Cond.code yX7_tryOrders cX7_tryOrders 5 none :: wG) ({ frames := 23, cells := 0, slots := 0, locals := 648 })).room s m ([.ref oM, .int p0, .int 3, .int p1] : List Value).toArray below meth c H locs 0 0 (MQ below (va_Qv (fun (_ : Nat) => True) (fun (_ : Nat) (t : State) => ∃ (niM_breaths : Int32) (niM_cutMany : Int32) (niM_orderMany : Int32) (niM_orderSum : Int32) (niM_leastOrder : Int32) (nfM_heardRow : Nat → Int32) (nfM_cutRow : Nat → Int32) (nfM_trial : Nat → Int32), (0 ≤ niM_breaths.toInt ∧ niM_breaths.toInt ≤ 399) ∧ (0 ≤ niM_cutMany.toInt ∧ niM_cutMany.toInt ≤ 399) ∧ (iM_orderMany.toInt + 1 ≤ niM_orderMany.toInt ∧ niM_orderMany.toInt ≤ iM_orderMany.toInt + 4) ∧ (KeepI fM_trial p0.toNatClampNeg 3 nfM_trial) ∧ (PX7_try_3 fM_r fM_told fM_st iM_scale fM_heardRow fM_cutRow iM_breaths iM_cutMany fM_trial iM_orderMany iM_orderSum iM_leastOrder p0 p1 = (niM_breaths, niM_cutMany, niM_orderMany, niM_orderSum, niM_leastOrder, nfM_heardRow, nfM_cutRow, nfM_trial)) ∧ Bw dC dI A [(oc7 oM iM_thrown rM_tape iM_taped iM_size iM_at iM_end iM_token iM_whole iM_nameSize iM_fault iM_place iM_trouble rM_letters iM_failed iM_hasCourt rM_r rM_fresh rM_told rM_read rM_st rM_undone rM_kept iM_undos iM_images rM_fresher iM_fresherSize iM_scale iM_night rM_heardRow rM_cutRow niM_breaths niM_cutMany iM_allBreaths rM_trial rM_words iM_fewestBreaths niM_orderMany niM_orderSum niM_leastOrder rM_often iM_setMany iM_someOf iM_allOf iM_allWeight iM_enoughWeight iM_worthSum iM_firstRest iM_leastDrawn), (arI rM_r kM_r 287 fM_r), (arI rM_told kM_told 90 fM_told), (arI rM_st kM_st 90 fM_st), (arI rM_heardRow kM_heardRow 400 nfM_heardRow), (arI rM_cutRow kM_cutRow 800 nfM_cutRow), (arI rM_trial kM_trial 90 nfM_trial)] [(kM_r, .int), (kM_told, .int), (kM_st, .int), (kM_heardRow, .int), (kM_cutRow, .int), (kM_trial, .int)] t) A) ([.ref oM, .int p0, .int 3, .int p1] : List Value).toArray s 0 0 A) (F0 m 70 ls []) := by
      intro n_3890
      induction n_3890 with
      | zero => intro z_3881 z_3882 z_3883 z_3884 z_3885 z_3886 f_3887 f_3888 f_3889 H locs ls b_z_3883 b_z_3884 hi0_n_3890 hi1_n_3890 hi2_n_3890 hi3_n_3890 hm; exact absurd hm (Nat.not_lt_zero _)
      | succ n_3890 ih_n_3890 =>
        intro z_3881 z_3882 z_3883 z_3884 z_3885 z_3886 f_3887 f_3888 f_3889 H locs ls b_z_3883 b_z_3884 hi0_n_3890 hi1_n_3890 hi2_n_3890 hi3_n_3890 hm_n_3890 hG hP hD hS hl
        have hG := hG.trans (HX7_try_3_0_eq _ _ _ _ _ _ _ _ _ _ _ _ _ _ _ _)
        refine lv_iload hx hb dX7_tryOrders_70 (lv_at hl 0 rfl) ?_
        refine lv_aload_n hx hb dX7_tryOrders_72 rfl (lv_at hl 1 rfl) ?_
        refine va_get (D := (dC, dI)) (ci := 7) (v := .ref rM_r) (C := RX7) (T := TX7) (N := 48) hx hb hts inX7 hown hK hP 0 rfl rfl 15 (by decide) (hts _ wd_155) (fun _ h9 => h9) rfl dX7_tryOrders_73 ?_
        refine lv_bipush (v := 27) hx hb dX7_tryOrders_76 (by decide) ?_
        refine lv_iload_n hx hb dX7_tryOrders_78 rfl (lv_at hl 2 rfl) ?_
        refine lv_iadd hx hb dX7_tryOrders_79 ?_
        refine lv_topi (fun x_3891 ex_3891 => ?_)
        have hG := hG.trans (lt_eq ex_3891)
        have vx_3891 : x_3891.toInt = p0.toInt + 27 := om_6c48219a (ti_add ex_3891 kc_27 rfl (om_edd3f7cf hk0.1) (om_cf6669ce hk0.2 s_nodes.2))
        refine va_iald hx hb hK hP 1 0 rfl rfl (ti_in vx_3891 (om_b4b48b7f hk0.1) (om_420abfc6 hk0.2 s_nodes.2)) dX7_tryOrders_80 ?_
        refine lv_topi (fun x_3892 ex_3892 => ?_)
        have hG := hG.trans (lt_eq ex_3892)
        have kx_3892 : (fM_r x_3891.toNatClampNeg).toInt = x_3892.toInt := by rw [ex_3892]
        have cx_3892 : (fM_r (27 + p0.toNatClampNeg)).toInt = x_3892.toInt := by rw [show 27 + p0.toNatClampNeg = x_3891.toNatClampNeg from (om_779a3124 (ti_cl (x := p0) rfl hk0.1) (ti_cl (x := x_3891) vx_3891 (om_b4b48b7f hk0.1)))]; exact kx_3892
        have sx_3892 := r_R.many x_3891.toNatClampNeg (om_ab5399c3 (ti_cl (x := x_3891) vx_3891 (om_b4b48b7f hk0.1)) hk0.1) (om_3b68d876 (ti_cl (x := x_3891) vx_3891 (om_b4b48b7f hk0.1)) hk0.2 s_nodes.2)
        refine lv_icmp_ge (tgt := 137) hx hb dX7_tryOrders_81 (by decide) (fun c_3893 => ?_) (fun c_3893 => ?_)
        · skip
          have hG := hG.trans (if_pos c_3893)
          have gc_3893 := ti_le c_3893 rfl rfl
          exact wq_v hx hb hr 0 trivial (fun t ht hW => ⟨z_3883, z_3884, z_3882, z_3885, z_3886, f_3888, f_3889, f_3887, b_z_3883, b_z_3884, (by rcases hi3_n_3890 with h9 | h9; omega; exact absurd (cnt_full (P := bitN p1) (fM_r (27 + p0.toNatClampNeg)).toInt.toNat (fun q hq => h9 q (by omega))) (by rw [hcn]; omega)), (by assumption), hG, Bw.to hP hD hK ht hW⟩) hS dX7_tryOrders_137 hlocks
        · skip
          have hG := hG.trans (if_neg c_3893)
          have gc_3893 := ti_nle c_3893 rfl rfl
          refine lv_iload_n hx hb dX7_tryOrders_84 rfl (lv_at hl 4 rfl) ?_
          refine lv_iload hx hb dX7_tryOrders_85 (lv_at hl 0 rfl) ?_
          have hFc : ∀ q, va_A [] _ q → A q := fun q h => hA q (Nat.le_trans hS.1 (va_nilA h))
          refine va_calli (va_runS (As := [.int p1, .int z_3881]) (rest := []) ⟨hx, hb, hml, hown, hts⟩ (tX7_hasBit l dC dI _ p1 z_3881 ) (va_cwS 2 hts (wd_S wd_968 wd_969 wd_5 (wd_c wd_970)) rfl rfl rfl ds_yX7_hasBit_2 ⟨Nat.le_of_ble_eq_true rfl, Nat.le_of_ble_eq_true rfl⟩) ⟨Pw.fb, fun U hU hW => Pn.to hK hE hS hA hU hW⟩ rfl rfl hl.1 rfl (lv_room (Nat.le_of_ble_eq_true rfl)) dX7_tryOrders_87 ⟨Nat.le_of_ble_eq_true rfl, Nat.le_of_ble_eq_true rfl⟩) hS (fun q _ h => hFc q h) hFc (fun r u t H locs ht hvm hw hB hz1 hk1 hS => ?_)
          obtain ⟨hP, hD, hK⟩ := Bw.same ht hvm hP hD hK hk1 hFc
          clear hz1 hk1 hvm ht hB
          have hq9 := hw.2
          have hw := hw.1
          obtain ⟨x_3894, rfl⟩ : ∃ z, z = r := ⟨_, rfl⟩
          have hq_x_3894 := hq9
          have hG := hG.trans (lt_eq hq_x_3894.symm)
          have bx_3894 := hw.1
          have dx_3894 := bz_tb bx_3894
          have px_3894 := hw.2
          rcases px_3894 with ⟨gx_3894, hx_3894⟩ | ⟨gx_3894, hx_3894⟩
          · skip
            have g9x_3894 : x_3894.toInt = 1 := by rw [gx_3894]; exact kc_1
            have hb9 : bitN p1 z_3881.toNatClampNeg := (tb_bit (by omega) (by omega)).mp hx_3894
            refine lv_if_eq (tgt := 96) hx hb dX7_tryOrders_90 (by decide) (fun c_3895 => ?_) (fun c_3895 => ?_)
            · skip
              have hG := hG.trans (if_pos c_3895)
              have gc_3895 := ti_eq c_3895 rfl kc_0
              exfalso; clear hG; omega
            · skip
              have hG := hG.trans (if_neg c_3895)
              have gc_3895 := ti_ne c_3895 rfl kc_0
              refine lv_goto (tgt := 131) hx hb dX7_tryOrders_93 (by decide) ?_
              obtain ⟨x_3896, ex_3896⟩ : ∃ z : Int32, z = z_3881 + Int32.ofInt 1 := ⟨_, rfl⟩
              have hG := hG.trans (lt_eq ex_3896)
              have vx_3896 : x_3896.toInt = z_3881.toInt + 1 := ti_add (y := 1) ex_3896 rfl kc_1 (om_4e4fce7e hi0_n_3890.1) (om_d6392c09 mn_p0.2 hi0_n_3890.2)
              refine lv_iinc (v := x_3896) (lv' := [(4, .int x_3896), (0, .ref oM), (1, .int p0), (2, .int 3), (3, .int p1)]) hx hb dX7_tryOrders_131 hl (k := 0) rfl ex_3896.symm (by decide) rfl (fun ls hl => ?_)
              refine lv_goto (tgt := 70) hx hb dX7_tryOrders_134 (by decide) ?_
              exact ih_n_3890 x_3896 z_3882 z_3883 z_3884 z_3885 z_3886 f_3887 f_3888 f_3889 _ _ _ b_z_3883 b_z_3884 ⟨(om_83b90de5 hi0_n_3890.1 vx_3896), (om_1ad1f819 cx_3892 gc_3893 vx_3896)⟩ (by first | assumption | omega | decide) ⟨hi2_n_3890.1, (om_41800d9e hi2_n_3890.2 vx_3896)⟩ (by rcases hi3_n_3890 with h9 | h9; exact Or.inl (by omega); exact Or.inr (fun q hq => by by_cases e9 : q = z_3881.toNatClampNeg; (rw [e9]; exact hb9); exact h9 q (by have q1 := ti_cl (x := z_3881) rfl hi0_n_3890.1; omega))) (ms_lt hm_n_3890 (om_dd4ae0bc vx_3896) (om_6d498008 cx_3892 gc_3893)) hG hP hD hS (lv_sub hl [0, 1, 2, 3, 4] rfl)
          · skip
            have g9x_3894 : x_3894.toInt = 0 := by rw [gx_3894]; exact kc_0
            have hb9 : ¬ bitN p1 z_3881.toNatClampNeg := fun z9 => hx_3894 ((tb_bit (by omega) (by omega)).mpr z9)
            refine lv_if_eq (tgt := 96) hx hb dX7_tryOrders_90 (by decide) (fun c_3897 => ?_) (fun c_3897 => ?_)
            · skip
              have hG := hG.trans (if_pos c_3897)
              have gc_3897 := ti_eq c_3897 rfl kc_0
              refine lv_aload_n hx hb dX7_tryOrders_96 rfl (lv_at hl 1 rfl) ?_
              refine va_get (D := (dC, dI)) (ci := 7) (v := .ref rM_trial) (C := RX7) (T := TX7) (N := 48) hx hb hts inX7 hown hK hP 0 rfl rfl 33 (by decide) (hts _ wd_167) (fun _ h9 => h9) rfl dX7_tryOrders_97 ?_
              refine lv_iconst (v := 4) hx hb dX7_tryOrders_100 (by decide) ?_
              refine lv_iload_n hx hb dX7_tryOrders_101 rfl (lv_at hl 2 rfl) ?_
              refine lv_imul hx hb dX7_tryOrders_102 ?_
              refine lv_topi (fun x_3898 ex_3898 => ?_)
              have hG := hG.trans (lt_eq ex_3898)
              have vx_3898 : x_3898.toInt = 4 * p0.toInt := ti_mul ex_3898 kc_4 rfl (om_56b74365 hk0.1) (om_eac0354e hk0.2 s_nodes.2)
              refine lv_iload_n hx hb dX7_tryOrders_103 rfl (lv_at hl 3 rfl) ?_
              refine lv_iadd hx hb dX7_tryOrders_104 ?_
              refine lv_topi (fun x_3899 ex_3899 => ?_)
              have hG := hG.trans (lt_eq ex_3899)
              have vx_3899 : x_3899.toInt = 4 * p0.toInt + 3 := om_458b6fe0 (ti_add ex_3899 vx_3898 kc_3 (om_27c61d48 hk0.1) (om_020efcbd hk0.2 s_nodes.2))
              refine lv_aload_n hx hb dX7_tryOrders_105 rfl (lv_at hl 1 rfl) ?_
              refine va_get (D := (dC, dI)) (ci := 7) (v := .ref rM_st) (C := RX7) (T := TX7) (N := 48) hx hb hts inX7 hown hK hP 0 rfl rfl 19 (by decide) (hts _ wd_159) (fun _ h9 => h9) rfl dX7_tryOrders_106 ?_
              refine lv_iconst (v := 4) hx hb dX7_tryOrders_109 (by decide) ?_
              refine lv_iload_n hx hb dX7_tryOrders_110 rfl (lv_at hl 2 rfl) ?_
              refine lv_imul hx hb dX7_tryOrders_111 ?_
              refine lv_topi (fun x_3900 ex_3900 => ?_)
              have hG := hG.trans (lt_eq ex_3900)
              have vx_3900 : x_3900.toInt = 4 * p0.toInt := ti_mul ex_3900 kc_4 rfl (om_56b74365 hk0.1) (om_eac0354e hk0.2 s_nodes.2)
              refine lv_iload hx hb dX7_tryOrders_112 (lv_at hl 0 rfl) ?_
              refine lv_iadd hx hb dX7_tryOrders_114 ?_
              refine lv_topi (fun x_3901 ex_3901 => ?_)
              have hG := hG.trans (lt_eq ex_3901)
              have vx_3901 : x_3901.toInt = 4 * p0.toInt + z_3881.toInt := om_5d0caf0f (ti_add ex_3901 vx_3900 rfl (om_056a216f hk0.1 hi0_n_3890.1) (om_da12a7f8 hk0.2 s_nodes.2 mn_p0.2 hi0_n_3890.2))
              refine va_iald hx hb hK hP 3 2 rfl rfl (ti_in vx_3901 (om_fc2812d4 hk0.1 hi0_n_3890.1) (om_01db022b hk0.2 s_nodes.2 mn_p0.2 hi0_n_3890.2)) dX7_tryOrders_115 ?_
              refine lv_topi (fun x_3902 ex_3902 => ?_)
              have hG := hG.trans (lt_eq ex_3902)
              have kx_3902 : (fM_st x_3901.toNatClampNeg).toInt = x_3902.toInt := by rw [ex_3902]
              have cx_3902 : (fM_st (4 * p0.toNatClampNeg + z_3881.toNatClampNeg)).toInt = x_3902.toInt := by rw [show 4 * p0.toNatClampNeg + z_3881.toNatClampNeg = x_3901.toNatClampNeg from (om_4de36627 (ti_cl (x := p0) rfl hk0.1) (ti_cl (x := z_3881) rfl hi0_n_3890.1) (ti_cl (x := x_3901) vx_3901 (om_fc2812d4 hk0.1 hi0_n_3890.1)))]; exact kx_3902
              have wx_3902 : 0 ≤ x_3902.toInt ∧ x_3902.toInt < p0.toInt := row_lt r_st (i := z_3881.toNatClampNeg) (ti_cl (x := p0) rfl hk0.1) (ti_cl (x := z_3881) rfl hi0_n_3890.1) hk0.2 (om_644b432c cx_3892 gc_3893) (om_24300f0a (ti_cl (x := p0) rfl hk0.1) (ti_cl (x := z_3881) rfl hi0_n_3890.1)) cx_3902
              refine va_iast hx hb hK hP hD hS 6 5 rfl rfl (ti_in vx_3899 (om_1e5d775c hk0.1) (om_77271fb1 hk0.2 s_nodes.2)) dX7_tryOrders_116 (fun H locs hP hD hS => ?_)
              obtain ⟨f_3903, ef_3903⟩ : ∃ g : Nat → Int32, g = upd f_3887 x_3899.toNatClampNeg x_3902 := ⟨_, rfl⟩
              rw [← ef_3903] at hP hD
              have hG := hG.trans (lt_eq ef_3903)
              obtain ⟨hP, hD⟩ := wl2 (ws' := [(oc7 oM iM_thrown rM_tape iM_taped iM_size iM_at iM_end iM_token iM_whole iM_nameSize iM_fault iM_place iM_trouble rM_letters iM_failed iM_hasCourt rM_r rM_fresh rM_told rM_read rM_st rM_undone rM_kept iM_undos iM_images rM_fresher iM_fresherSize iM_scale iM_night rM_heardRow rM_cutRow z_3883 z_3884 iM_allBreaths rM_trial rM_words iM_fewestBreaths z_3882 z_3885 z_3886 rM_often iM_setMany iM_someOf iM_allOf iM_allWeight iM_enoughWeight iM_worthSum iM_firstRest iM_leastDrawn), (arI rM_r kM_r 287 fM_r), (arI rM_told kM_told 90 fM_told), (arI rM_st kM_st 90 fM_st), (arI rM_heardRow kM_heardRow 400 f_3888), (arI rM_cutRow kM_cutRow 800 f_3889), (arI rM_trial kM_trial 90 f_3903)]) hP hD rfl
              refine lv_aload_n hx hb dX7_tryOrders_117 rfl (lv_at hl 1 rfl) ?_
              refine lv_iload_n hx hb dX7_tryOrders_118 rfl (lv_at hl 2 rfl) ?_
              refine lv_iload_n hx hb dX7_tryOrders_119 rfl (lv_at hl 3 rfl) ?_
              refine lv_iconst (v := 1) hx hb dX7_tryOrders_120 (by decide) ?_
              refine lv_iadd hx hb dX7_tryOrders_121 ?_
              refine lv_topi (fun x_3904 ex_3904 => ?_)
              obtain rfl : x_3904 = 4 := ex_3904.trans (by decide)
              refine lv_iload_n hx hb dX7_tryOrders_122 rfl (lv_at hl 4 rfl) ?_
              refine lv_iconst (v := 1) hx hb dX7_tryOrders_123 (by decide) ?_
              refine lv_iload hx hb dX7_tryOrders_124 (lv_at hl 0 rfl) ?_
              refine lv_ishl hx hb dX7_tryOrders_126 ?_
              refine lv_topi (fun x_3905 ex_3905 => ?_)
              have hG := hG.trans (lt_eq ex_3905)
              have qx_3905 := ti_shl ex_3905 rfl (by omega) (by omega)
              refine lv_ior hx hb dX7_tryOrders_127 ?_
              refine lv_topi (fun x_3906 ex_3906 => ?_)
              have hG := hG.trans (lt_eq ex_3906)
              have q_P := ti_cl (x := z_3881) rfl hi0_n_3890.1
              have ob9 := or_bit (u := p1) (p := z_3881) (v := x_3906) (x := x_3905) (by omega) (by omega) ex_3905 ex_3906
              have ob8 := ob9.1
              have cn9 : cntP (bitN x_3906) (fM_r (27 + p0.toNatClampNeg)).toInt.toNat = 4 := by rw [cnt_more (P := bitN p1) (p := z_3881.toNatClampNeg) (fM_r (27 + p0.toNatClampNeg)).toInt.toNat (by omega) hb9 (fun q hq => ob9.2 q (by omega)), hcn]
              have hq9 : x_3899.toNatClampNeg = 4 * p0.toNatClampNeg + 3 := by have q1 := ti_cl (x := x_3899) vx_3899 (om_1e5d775c hk0.1); have q2 := ti_cl (x := p0) rfl hk0.1; omega
              have tr9 : TryOk fM_r fM_st f_3903 p0.toNatClampNeg 4 x_3906 := try_step (p := z_3881.toNatClampNeg) r_R r_st (by omega) htr hi1_n_3890 ef_3903 hq9 (by have q := cx_3902; omega) (by omega) (by decide) hb9 ob9.2
              have hFc := va_freeI hD hS hA
              refine va_callv (va_runV (As := [.int p0, .int 4, .int x_3906]) (rest := []) ⟨hx, hb, hml, hown, hts⟩ (tX7_try_4 l dC dI _ oM iM_thrown rM_tape iM_taped iM_size iM_at iM_end iM_token iM_whole iM_nameSize iM_fault iM_place iM_trouble rM_letters iM_failed iM_hasCourt rM_r fM_r kM_r rM_fresh rM_told fM_told kM_told rM_read rM_st fM_st kM_st rM_undone rM_kept iM_undos iM_images rM_fresher iM_fresherSize iM_scale iM_night rM_heardRow f_3888 kM_heardRow rM_cutRow f_3889 kM_cutRow z_3883 z_3884 iM_allBreaths rM_trial f_3903 kM_trial rM_words iM_fewestBreaths z_3882 z_3885 z_3886 rM_often iM_setMany iM_someOf iM_allOf iM_allWeight iM_enoughWeight iM_worthSum iM_firstRest iM_leastDrawn p0 x_3906 b_iM_taped b_iM_size b_iM_end b_iM_failed b_iM_hasCourt b_iM_undos b_iM_images b_iM_scale b_z_3883 b_z_3884 (by assumption) (by assumption) (by assumption) (by assumption) (by assumption) ⟨hk0.1, hk0.2⟩ ⟨hth.1, hth.2⟩ (by first | assumption | (have q0 := kc_0; have q1 := kc_1; have q2 := kc_4; first | exact ⟨by omega, by omega⟩ | omega) | decide | (intro h; exact absurd h (by decide))) (by first | assumption | (have q0 := kc_0; have q1 := kc_1; have q2 := kc_4; first | exact ⟨by omega, by omega⟩ | omega) | decide | (intro h; exact absurd h (by decide))) (by first | assumption | (have q0 := kc_0; have q1 := kc_1; have q2 := kc_4; first | exact ⟨by omega, by omega⟩ | omega) | decide | (intro h; exact absurd h (by decide))) (by first | assumption | (have q0 := kc_0; have q1 := kc_1; have q2 := kc_4; first | exact ⟨by omega, by omega⟩ | omega) | decide | (intro h; exact absurd h (by decide))) ⟨(om_11cc87cb hom.1 hi2_n_3890.1), (om_2ef89407 hom.2 mn_p0.2 hi2_n_3890.2 cx_3892 gc_3893)⟩) (cwV 3 hts (wd_V wd_1071 wd_1072 wd_1073 wd_5 (wd_c wd_1074)) rfl rfl rfl (by decide +kernel) ⟨Nat.le_of_ble_eq_true rfl, Nat.le_of_ble_eq_true rfl⟩) ⟨Pw.fb, recvX7 hK hP (q0 := 0) rfl, fun U hU hW => Pw.to hP hD hK hE hS hFc hU hW⟩ rfl rfl hl.1 rfl (lv_room (Nat.le_of_ble_eq_true rfl)) dX7_tryOrders_128 ⟨Nat.le_of_ble_eq_true rfl, Nat.le_of_ble_eq_true rfl⟩) hS (fun q _ h => hFc q h) hFc (fun u t H locs ht hvm hw hB hz1 hk1 hS => ?_)
              refine ex_7_4 hB (fun x_3907 x_3908 x_3909 x_3910 x_3911 f_3912 f_3913 b_x_3907 b_x_3908 e_x_3907_0 e_x_3907_1 hB => ?_)
              obtain ⟨hP, hD⟩ := Bw.goA (ws' := [(oc7 oM iM_thrown rM_tape iM_taped iM_size iM_at iM_end iM_token iM_whole iM_nameSize iM_fault iM_place iM_trouble rM_letters iM_failed iM_hasCourt rM_r rM_fresh rM_told rM_read rM_st rM_undone rM_kept iM_undos iM_images rM_fresher iM_fresherSize iM_scale iM_night rM_heardRow rM_cutRow x_3907 x_3908 iM_allBreaths rM_trial rM_words iM_fewestBreaths x_3909 x_3910 x_3911 rM_often iM_setMany iM_someOf iM_allOf iM_allWeight iM_enoughWeight iM_worthSum iM_firstRest iM_leastDrawn), (arI rM_r kM_r 287 fM_r), (arI rM_told kM_told 90 fM_told), (arI rM_st kM_st 90 fM_st), (arI rM_heardRow kM_heardRow 400 f_3912), (arI rM_cutRow kM_cutRow 800 f_3913), (arI rM_trial kM_trial 90 f_3903)]) hB rfl ht hFc rfl
              clear hz1 hk1 hvm ht hB
              have kp9 : KeepI fM_trial p0.toNatClampNeg 3 f_3903 := keep_step hi1_n_3890 ef_3903 hq9 (by decide) (i' := 4) keep_refl rfl
              have hG := hG.trans (un7_eq e_x_3907_1)
              obtain ⟨x_3914, ex_3914⟩ : ∃ z : Int32, z = z_3881 + Int32.ofInt 1 := ⟨_, rfl⟩
              have hG := hG.trans (lt_eq ex_3914)
              have vx_3914 : x_3914.toInt = z_3881.toInt + 1 := ti_add (y := 1) ex_3914 rfl kc_1 (om_4e4fce7e hi0_n_3890.1) (om_d6392c09 mn_p0.2 hi0_n_3890.2)
              refine lv_iinc (v := x_3914) (lv' := [(4, .int x_3914), (0, .ref oM), (1, .int p0), (2, .int 3), (3, .int p1)]) hx hb dX7_tryOrders_131 hl (k := 0) rfl ex_3914.symm (by decide) rfl (fun ls hl => ?_)
              refine lv_goto (tgt := 70) hx hb dX7_tryOrders_134 (by decide) ?_
              exact ih_n_3890 x_3914 x_3909 x_3907 x_3908 x_3910 x_3911 f_3903 f_3912 f_3913 _ _ _ b_x_3907 b_x_3908 ⟨(om_83b90de5 hi0_n_3890.1 vx_3914), (om_1ad1f819 cx_3892 gc_3893 vx_3914)⟩ kp9 ⟨(om_a2451a67 hi2_n_3890.1 e_x_3907_0.1), (om_3a80e809 hi2_n_3890.2 e_x_3907_0.2 vx_3914)⟩ (Or.inl (by omega)) (ms_lt hm_n_3890 (om_dd4ae0bc vx_3914) (om_6d498008 cx_3892 gc_3893)) hG hP hD hS (lv_sub hl [0, 1, 2, 3, 4] rfl)
            · skip
              have hG := hG.trans (if_neg c_3897)
              have gc_3897 := ti_ne c_3897 rfl kc_0
              exfalso; clear hG; omega
    exact key_n_3890 ((((fM_r (27 + p0.toNatClampNeg)).toInt - (0 : Int32).toInt).toNat) + 1) 0 iM_orderMany iM_breaths iM_cutMany iM_orderSum iM_leastOrder fM_trial fM_heardRow fM_cutRow _ _ _ ⟨b_iM_breaths.1, b_iM_breaths.2⟩ ⟨b_iM_cutMany.1, b_iM_cutMany.2⟩ ⟨(om_b1de7dbe kc_0), (om_7729797d him kc_0)⟩ (by first | assumption | omega | decide | exact keep_refl | exact Or.inr (fun q hq => absurd hq (by have q0 := kc_0; omega))) ⟨om_1cb5f934, (om_1d961dd4 kc_0)⟩ (by first | (have q0 := kc_0; have q1 := kc_1; omega) | decide | assumption | exact keep_refl | exact Or.inr (fun q hq => absurd hq (by have q0 := kc_0; omega))) (Nat.lt_add_one _) hG hP hD hS hl
  · skip
    have hG := hG.trans (if_pos c_3880)
    have gc_3880 := ti_eq c_3880 kc_3 rfl
    refine lv_aload_n hx hb dX7_tryOrders_13 rfl (lv_at hl 0 rfl) ?_
    refine lv_aload_n hx hb dX7_tryOrders_14 rfl (lv_at hl 0 rfl) ?_
    refine va_get (D := (dC, dI)) (ci := 7) (v := .ref rM_trial) (C := RX7) (T := TX7) (N := 48) hx hb hts inX7 hown hK hP 0 rfl rfl 33 (by decide) (hts _ wd_167) (fun _ h9 => h9) rfl dX7_tryOrders_15 ?_
    have hMs := ml_of hD [true, true, true, false, true, true, true] (wc := [(oc7 oM iM_thrown rM_tape iM_taped iM_size iM_at iM_end iM_token iM_whole iM_nameSize iM_fault iM_place iM_trouble rM_letters iM_failed iM_hasCourt rM_r rM_fresh rM_told rM_read rM_st rM_undone rM_kept iM_undos iM_images rM_fresher iM_fresherSize iM_scale iM_night rM_heardRow rM_cutRow iM_breaths iM_cutMany iM_allBreaths rM_trial rM_words iM_fewestBreaths iM_orderMany iM_orderSum iM_leastOrder rM_often iM_setMany iM_someOf iM_allOf iM_allWeight iM_enoughWeight iM_worthSum iM_firstRest iM_leastDrawn), (arI rM_r kM_r 287 fM_r), (arI rM_told kM_told 90 fM_told), (arI rM_heardRow kM_heardRow 400 fM_heardRow), (arI rM_cutRow kM_cutRow 800 fM_cutRow), (arI rM_trial kM_trial 90 fM_trial)]) rfl
    have hFc := va_freeM hD hS hA _ hMs
    refine va_calli (va_runV (As := [.ref rM_trial]) (rest := []) ⟨hx, hb, hml, hown, hts⟩ (tX7_breathsBy l dC dI _ oM iM_thrown rM_tape iM_taped iM_size iM_at iM_end iM_token iM_whole iM_nameSize iM_fault iM_place iM_trouble rM_letters iM_failed iM_hasCourt rM_r fM_r kM_r rM_fresh rM_told fM_told kM_told rM_read rM_st rM_undone rM_kept iM_undos iM_images rM_fresher iM_fresherSize iM_scale iM_night rM_heardRow fM_heardRow kM_heardRow rM_cutRow fM_cutRow kM_cutRow iM_breaths iM_cutMany iM_allBreaths rM_trial rM_words iM_fewestBreaths iM_orderMany iM_orderSum iM_leastOrder rM_often iM_setMany iM_someOf iM_allOf iM_allWeight iM_enoughWeight iM_worthSum iM_firstRest iM_leastDrawn rM_trial fM_trial kM_trial b_iM_taped b_iM_size b_iM_end b_iM_failed b_iM_hasCourt b_iM_undos b_iM_images b_iM_scale b_iM_breaths b_iM_cutMany (by assumption) (by assumption) (by assumption) (by first | assumption | exact rowt (by omega)) ⟨hth.1, hth.2⟩) (cwV 1 hts (wd_V wd_769 wd_770 wd_771 wd_5 (wd_c wd_772)) rfl rfl rfl dv_yX7_breathsBy_1 ⟨Nat.le_of_ble_eq_true rfl, Nat.le_of_ble_eq_true rfl⟩) ⟨Pw.fb, recvX7 hK hP (q0 := 0) rfl, fun U hU hW => Pw.to (hP.ms _ hMs) (hD.ms _ hMs) (hK.ms [true, true, false, true, true, true] rfl) hE hS hFc hU hW⟩ rfl rfl hl.1 rfl (lv_room (Nat.le_of_ble_eq_true rfl)) dX7_tryOrders_18 ⟨Nat.le_of_ble_eq_true rfl, Nat.le_of_ble_eq_true rfl⟩) hS (fun q _ h => hFc q h) hFc (fun r u t H locs ht hvm hw hB hz1 hk1 hS => ?_)
    have hru9 := hw.2
    have hw := hw.1
    refine ex_4_3 hB (fun x_3915 x_3916 f_3917 f_3918 b_x_3915 b_x_3916 e_x_3915_0 hB => ?_)
    obtain ⟨hP, hD⟩ := Bw.goN (ws' := [(oc7 oM iM_thrown rM_tape iM_taped iM_size iM_at iM_end iM_token iM_whole iM_nameSize iM_fault iM_place iM_trouble rM_letters iM_failed iM_hasCourt rM_r rM_fresh rM_told rM_read rM_st rM_undone rM_kept iM_undos iM_images rM_fresher iM_fresherSize iM_scale iM_night rM_heardRow rM_cutRow x_3915 x_3916 iM_allBreaths rM_trial rM_words iM_fewestBreaths iM_orderMany iM_orderSum iM_leastOrder rM_often iM_setMany iM_someOf iM_allOf iM_allWeight iM_enoughWeight iM_worthSum iM_firstRest iM_leastDrawn), (arI rM_r kM_r 287 fM_r), (arI rM_told kM_told 90 fM_told), (arI rM_st kM_st 90 fM_st), (arI rM_heardRow kM_heardRow 400 f_3917), (arI rM_cutRow kM_cutRow 800 f_3918), (arI rM_trial kM_trial 90 fM_trial)]) hB rfl ht hP hD _ hMs hk1 hFc rfl
    clear hz1 hk1 hvm ht hB hMs
    rw [← hru9] at e_x_3915_0
    obtain ⟨x_3919, rfl⟩ : ∃ z, z = r := ⟨_, rfl⟩
    have hG := hG.trans (un5_eq e_x_3915_0)
    have ux_3919 := hw.2
    refine lv_istore (lv' := [(4, .int x_3919), (0, .ref oM), (1, .int p0), (2, .int 3), (3, .int p1)]) hx hb dX7_tryOrders_21 hl (by decide) rfl (fun ls hl => ?_)
    refine lv_aload_n hx hb dX7_tryOrders_23 rfl (lv_at hl 1 rfl) ?_
    refine lv_dup hx hb dX7_tryOrders_24 rfl ?_
    refine va_get (D := (dC, dI)) (ci := 7) (v := .int iM_orderMany) (C := RX7) (T := TX7) (N := 48) hx hb hts inX7 hown hK hP 0 rfl rfl 36 (by decide) (hts _ wd_1065) (fun _ h9 => h9) rfl dX7_tryOrders_25 ?_
    refine lv_iconst (v := 1) hx hb dX7_tryOrders_28 (by decide) ?_
    refine lv_iadd hx hb dX7_tryOrders_29 ?_
    refine lv_topi (fun x_3920 ex_3920 => ?_)
    have hG := hG.trans (lt_eq ex_3920)
    have vx_3920 : x_3920.toInt = iM_orderMany.toInt + 1 := ti_add ex_3920 rfl kc_1 (om_4e4fce7e hom.1) (om_37ea73a4 hom.2)
    refine va_put (D := (dC, dI)) (ci := 7) (v := .int x_3920) (ty := .int) (C := RX7) (T := TX7) (N := 48) hx hb hts inX7 tyX7 tyX7_ok nmX7 hown hK hP hD hS 0 rfl rfl 36 (by decide) (hts _ wd_1065) (fun _ h9 => h9) rfl (by decide +kernel) rfl rfl (Nat.le_of_ble_eq_true rfl) dX7_tryOrders_30 (fun H locs hP hD hS => ?_)
    obtain ⟨hP, hD⟩ := wl2 (ws' := [(oc7 oM iM_thrown rM_tape iM_taped iM_size iM_at iM_end iM_token iM_whole iM_nameSize iM_fault iM_place iM_trouble rM_letters iM_failed iM_hasCourt rM_r rM_fresh rM_told rM_read rM_st rM_undone rM_kept iM_undos iM_images rM_fresher iM_fresherSize iM_scale iM_night rM_heardRow rM_cutRow x_3915 x_3916 iM_allBreaths rM_trial rM_words iM_fewestBreaths x_3920 iM_orderSum iM_leastOrder rM_often iM_setMany iM_someOf iM_allOf iM_allWeight iM_enoughWeight iM_worthSum iM_firstRest iM_leastDrawn), (arI rM_r kM_r 287 fM_r), (arI rM_told kM_told 90 fM_told), (arI rM_st kM_st 90 fM_st), (arI rM_heardRow kM_heardRow 400 f_3917), (arI rM_cutRow kM_cutRow 800 f_3918), (arI rM_trial kM_trial 90 fM_trial)]) hP hD rfl
    refine lv_aload_n hx hb dX7_tryOrders_33 rfl (lv_at hl 1 rfl) ?_
    refine lv_dup hx hb dX7_tryOrders_34 rfl ?_
    refine va_get (D := (dC, dI)) (ci := 7) (v := .int iM_orderSum) (C := RX7) (T := TX7) (N := 48) hx hb hts inX7 hown hK hP 0 rfl rfl 37 (by decide) (hts _ wd_1064) (fun _ h9 => h9) rfl dX7_tryOrders_35 ?_
    refine lv_iload hx hb dX7_tryOrders_38 (lv_at hl 0 rfl) ?_
    refine lv_iadd hx hb dX7_tryOrders_40 ?_
    refine lv_topi (fun x_3921 ex_3921 => ?_)
    have hG := hG.trans (lt_eq ex_3921)
    refine va_put (D := (dC, dI)) (ci := 7) (v := .int x_3921) (ty := .int) (C := RX7) (T := TX7) (N := 48) hx hb hts inX7 tyX7 tyX7_ok nmX7 hown hK hP hD hS 0 rfl rfl 37 (by decide) (hts _ wd_1064) (fun _ h9 => h9) rfl (by decide +kernel) rfl rfl (Nat.le_of_ble_eq_true rfl) dX7_tryOrders_41 (fun H locs hP hD hS => ?_)
    obtain ⟨hP, hD⟩ := wl2 (ws' := [(oc7 oM iM_thrown rM_tape iM_taped iM_size iM_at iM_end iM_token iM_whole iM_nameSize iM_fault iM_place iM_trouble rM_letters iM_failed iM_hasCourt rM_r rM_fresh rM_told rM_read rM_st rM_undone rM_kept iM_undos iM_images rM_fresher iM_fresherSize iM_scale iM_night rM_heardRow rM_cutRow x_3915 x_3916 iM_allBreaths rM_trial rM_words iM_fewestBreaths x_3920 x_3921 iM_leastOrder rM_often iM_setMany iM_someOf iM_allOf iM_allWeight iM_enoughWeight iM_worthSum iM_firstRest iM_leastDrawn), (arI rM_r kM_r 287 fM_r), (arI rM_told kM_told 90 fM_told), (arI rM_st kM_st 90 fM_st), (arI rM_heardRow kM_heardRow 400 f_3917), (arI rM_cutRow kM_cutRow 800 f_3918), (arI rM_trial kM_trial 90 fM_trial)]) hP hD rfl
    refine lv_aload_n hx hb dX7_tryOrders_44 rfl (lv_at hl 1 rfl) ?_
    refine lv_iload hx hb dX7_tryOrders_45 (lv_at hl 0 rfl) ?_
    refine lv_aload_n hx hb dX7_tryOrders_47 rfl (lv_at hl 1 rfl) ?_
    refine va_get (D := (dC, dI)) (ci := 7) (v := .int iM_leastOrder) (C := RX7) (T := TX7) (N := 48) hx hb hts inX7 hown hK hP 0 rfl rfl 38 (by decide) (hts _ wd_1070) (fun _ h9 => h9) rfl dX7_tryOrders_48 ?_
    refine lv_icmp_ge (tgt := 59) hx hb dX7_tryOrders_51 (by decide) (fun c_3922 => ?_) (fun c_3922 => ?_)
    · skip
      have hG := hG.trans (if_pos c_3922)
      have gc_3922 := ti_le c_3922 rfl rfl
      refine lv_aload_n hx hb dX7_tryOrders_59 rfl (lv_at hl 1 rfl) ?_
      refine va_get (D := (dC, dI)) (ci := 7) (v := .int iM_leastOrder) (C := RX7) (T := TX7) (N := 48) hx hb hts inX7 hown hK hP 0 rfl rfl 38 (by decide) (hts _ wd_1070) (fun _ h9 => h9) rfl dX7_tryOrders_60 ?_
      refine va_put (D := (dC, dI)) (ci := 7) (v := .int iM_leastOrder) (ty := .int) (C := RX7) (T := TX7) (N := 48) hx hb hts inX7 tyX7 tyX7_ok nmX7 hown hK hP hD hS 0 rfl rfl 38 (by decide) (hts _ wd_1070) (fun _ h9 => h9) rfl (by decide +kernel) rfl rfl (Nat.le_of_ble_eq_true rfl) dX7_tryOrders_63 (fun H locs hP hD hS => ?_)
      obtain ⟨hP, hD⟩ := wl2 (ws' := [(oc7 oM iM_thrown rM_tape iM_taped iM_size iM_at iM_end iM_token iM_whole iM_nameSize iM_fault iM_place iM_trouble rM_letters iM_failed iM_hasCourt rM_r rM_fresh rM_told rM_read rM_st rM_undone rM_kept iM_undos iM_images rM_fresher iM_fresherSize iM_scale iM_night rM_heardRow rM_cutRow x_3915 x_3916 iM_allBreaths rM_trial rM_words iM_fewestBreaths x_3920 x_3921 iM_leastOrder rM_often iM_setMany iM_someOf iM_allOf iM_allWeight iM_enoughWeight iM_worthSum iM_firstRest iM_leastDrawn), (arI rM_r kM_r 287 fM_r), (arI rM_told kM_told 90 fM_told), (arI rM_st kM_st 90 fM_st), (arI rM_heardRow kM_heardRow 400 f_3917), (arI rM_cutRow kM_cutRow 800 f_3918), (arI rM_trial kM_trial 90 fM_trial)]) hP hD rfl
      exact wq_v hx hb hr 0 trivial (fun t ht hW => ⟨x_3915, x_3916, x_3920, x_3921, iM_leastOrder, f_3917, f_3918, fM_trial, b_x_3915, b_x_3916, ⟨(om_25096cef vx_3920), (om_a5029d32 vx_3920)⟩, keep_refl, hG, Bw.to hP hD hK ht hW⟩) hS dX7_tryOrders_66 hlocks
    · skip
      have hG := hG.trans (if_neg c_3922)
      have gc_3922 := ti_nle c_3922 rfl rfl
      refine lv_iload hx hb dX7_tryOrders_54 (lv_at hl 0 rfl) ?_
      refine lv_goto (tgt := 63) hx hb dX7_tryOrders_56 (by decide) ?_
      refine va_put (D := (dC, dI)) (ci := 7) (v := .int x_3919) (ty := .int) (C := RX7) (T := TX7) (N := 48) hx hb hts inX7 tyX7 tyX7_ok nmX7 hown hK hP hD hS 0 rfl rfl 38 (by decide) (hts _ wd_1070) (fun _ h9 => h9) rfl (by decide +kernel) rfl rfl (Nat.le_of_ble_eq_true rfl) dX7_tryOrders_63 (fun H locs hP hD hS => ?_)
      obtain ⟨hP, hD⟩ := wl2 (ws' := [(oc7 oM iM_thrown rM_tape iM_taped iM_size iM_at iM_end iM_token iM_whole iM_nameSize iM_fault iM_place iM_trouble rM_letters iM_failed iM_hasCourt rM_r rM_fresh rM_told rM_read rM_st rM_undone rM_kept iM_undos iM_images rM_fresher iM_fresherSize iM_scale iM_night rM_heardRow rM_cutRow x_3915 x_3916 iM_allBreaths rM_trial rM_words iM_fewestBreaths x_3920 x_3921 x_3919 rM_often iM_setMany iM_someOf iM_allOf iM_allWeight iM_enoughWeight iM_worthSum iM_firstRest iM_leastDrawn), (arI rM_r kM_r 287 fM_r), (arI rM_told kM_told 90 fM_told), (arI rM_st kM_st 90 fM_st), (arI rM_heardRow kM_heardRow 400 f_3917), (arI rM_cutRow kM_cutRow 800 f_3918), (arI rM_trial kM_trial 90 fM_trial)]) hP hD rfl
      exact wq_v hx hb hr 0 trivial (fun t ht hW => ⟨x_3915, x_3916, x_3920, x_3921, x_3919, f_3917, f_3918, fM_trial, b_x_3915, b_x_3916, ⟨(om_25096cef vx_3920), (om_a5029d32 vx_3920)⟩, keep_refl, hG, Bw.to hP hD hK ht hW⟩) hS dX7_tryOrders_66 hlocks
set_option maxHeartbeats 4000000 in
set_option maxRecDepth 100000 in
theorem tX7_try_2 (l : Launch) (dC : Nat → ClassId) (dI : Nat → Nat → Nat) (sz : Nat) (oM : Nat) (iM_thrown : Int32) (rM_tape : Nat) (iM_taped : Int32) (iM_size : Int32) (iM_at : Int32) (iM_end : Int32) (iM_token : Int32) (iM_whole : Int32) (iM_nameSize : Int32) (iM_fault : Int32) (iM_place : Int32) (iM_trouble : Int32) (rM_letters : Nat) (iM_failed : Int32) (iM_hasCourt : Int32) (rM_r : Nat) (fM_r : Nat → Int32) (kM_r : ClassId) (rM_fresh : Nat) (rM_told : Nat) (fM_told : Nat → Int32) (kM_told : ClassId) (rM_read : Nat) (rM_st : Nat) (fM_st : Nat → Int32) (kM_st : ClassId) (rM_undone : Nat) (rM_kept : Nat) (iM_undos : Int32) (iM_images : Int32) (rM_fresher : Nat) (iM_fresherSize : Int32) (iM_scale : Int32) (iM_night : Int32) (rM_heardRow : Nat) (fM_heardRow : Nat → Int32) (kM_heardRow : ClassId) (rM_cutRow : Nat) (fM_cutRow : Nat → Int32) (kM_cutRow : ClassId) (iM_breaths : Int32) (iM_cutMany : Int32) (iM_allBreaths : Int32) (rM_trial : Nat) (fM_trial : Nat → Int32) (kM_trial : ClassId) (rM_words : Nat) (iM_fewestBreaths : Int32) (iM_orderMany : Int32) (iM_orderSum : Int32) (iM_leastOrder : Int32) (rM_often : Nat) (iM_setMany : Int32) (iM_someOf : Int32) (iM_allOf : Int32) (iM_allWeight : Int64) (iM_enoughWeight : Int64) (iM_worthSum : Int64) (iM_firstRest : Int32) (iM_leastDrawn : Int32) (p0 : Int32) (p1 : Int32) (b_iM_taped : 0 ≤ iM_taped.toInt ∧ iM_taped.toInt ≤ 900) (b_iM_size : 0 ≤ iM_size.toInt ∧ iM_size.toInt ≤ 900) (b_iM_end : 0 ≤ iM_end.toInt ∧ iM_end.toInt ≤ 900) (b_iM_failed : 0 ≤ iM_failed.toInt ∧ iM_failed.toInt ≤ 1) (b_iM_hasCourt : 0 ≤ iM_hasCourt.toInt ∧ iM_hasCourt.toInt ≤ 1) (b_iM_undos : 0 ≤ iM_undos.toInt ∧ iM_undos.toInt ≤ 16) (b_iM_images : 0 ≤ iM_images.toInt ∧ iM_images.toInt ≤ 3) (b_iM_scale : 1 ≤ iM_scale.toInt ∧ iM_scale.toInt ≤ 1296) (b_iM_breaths : 0 ≤ iM_breaths.toInt ∧ iM_breaths.toInt ≤ 399) (b_iM_cutMany : 0 ≤ iM_cutMany.toInt ∧ iM_cutMany.toInt ≤ 399) (r_R : ROk fM_r) (r_C : iM_hasCourt.toInt ≤ 0 ∨ (1 ≤ (fM_r 1).toInt ∧ 0 ≤ (fM_r 6).toInt ∧ (fM_r 6).toInt < (fM_r 1).toInt)) (r_st : RowOk fM_r fM_st) (r_told : RowOk fM_r fM_told) (r_wst : WorOk fM_st) (hk0 : 0 ≤ p0.toInt ∧ p0.toInt < (fM_r 1).toInt) (hth : 0 ≤ (fM_r 6).toInt ∧ (fM_r 6).toInt < (fM_r 1).toInt) (him : 2 ≤ (fM_r (27 + p0.toNatClampNeg)).toInt) (hp1 : 0 ≤ p1.toInt ∧ p1.toInt ≤ 15) (hcn : cntP (bitN p1) (fM_r (27 + p0.toNatClampNeg)).toInt.toNat = 2) (htr : TryOk fM_r fM_st fM_trial p0.toNatClampNeg 2 p1) (hom : 0 ≤ iM_orderMany.toInt ∧ iM_orderMany.toInt ≤ 984) : Met l yX7_tryOrders (Cond.code yX7_tryOrders cX7_tryOrders 5 none :: wG) ({ frames := 24, cells := 0, slots := 0, locals := 672 }) (va_Pc [.ref oM, .int p0, .int 2, .int p1] (Pw dC dI sz [(oc7 oM iM_thrown rM_tape iM_taped iM_size iM_at iM_end iM_token iM_whole iM_nameSize iM_fault iM_place iM_trouble rM_letters iM_failed iM_hasCourt rM_r rM_fresh rM_told rM_read rM_st rM_undone rM_kept iM_undos iM_images rM_fresher iM_fresherSize iM_scale iM_night rM_heardRow rM_cutRow iM_breaths iM_cutMany iM_allBreaths rM_trial rM_words iM_fewestBreaths iM_orderMany iM_orderSum iM_leastOrder rM_often iM_setMany iM_someOf iM_allOf iM_allWeight iM_enoughWeight iM_worthSum iM_firstRest iM_leastDrawn), (arI rM_r kM_r 287 fM_r), (arI rM_told kM_told 90 fM_told), (arI rM_st kM_st 90 fM_st), (arI rM_heardRow kM_heardRow 400 fM_heardRow), (arI rM_cutRow kM_cutRow 800 fM_cutRow), (arI rM_trial kM_trial 90 fM_trial)] [(kM_r, .int), (kM_told, .int), (kM_st, .int), (kM_heardRow, .int), (kM_cutRow, .int), (kM_trial, .int)])) (va_Qv (fun (_ : Nat) => True) (fun (_ : Nat) (t : State) => ∃ (niM_breaths : Int32) (niM_cutMany : Int32) (niM_orderMany : Int32) (niM_orderSum : Int32) (niM_leastOrder : Int32) (nfM_heardRow : Nat → Int32) (nfM_cutRow : Nat → Int32) (nfM_trial : Nat → Int32), (0 ≤ niM_breaths.toInt ∧ niM_breaths.toInt ≤ 399) ∧ (0 ≤ niM_cutMany.toInt ∧ niM_cutMany.toInt ≤ 399) ∧ (iM_orderMany.toInt + 1 ≤ niM_orderMany.toInt ∧ niM_orderMany.toInt ≤ iM_orderMany.toInt + 16) ∧ (KeepI fM_trial p0.toNatClampNeg 2 nfM_trial) ∧ (PX7_try_2 fM_r fM_told fM_st iM_scale fM_heardRow fM_cutRow iM_breaths iM_cutMany fM_trial iM_orderMany iM_orderSum iM_leastOrder p0 p1 = (niM_breaths, niM_cutMany, niM_orderMany, niM_orderSum, niM_leastOrder, nfM_heardRow, nfM_cutRow, nfM_trial)) ∧ Bw dC dI (va_A [(oc7 oM iM_thrown rM_tape iM_taped iM_size iM_at iM_end iM_token iM_whole iM_nameSize iM_fault iM_place iM_trouble rM_letters iM_failed iM_hasCourt rM_r rM_fresh rM_told rM_read rM_st rM_undone rM_kept iM_undos iM_images rM_fresher iM_fresherSize iM_scale iM_night rM_heardRow rM_cutRow iM_breaths iM_cutMany iM_allBreaths rM_trial rM_words iM_fewestBreaths iM_orderMany iM_orderSum iM_leastOrder rM_often iM_setMany iM_someOf iM_allOf iM_allWeight iM_enoughWeight iM_worthSum iM_firstRest iM_leastDrawn), (arI rM_r kM_r 287 fM_r), (arI rM_told kM_told 90 fM_told), (arI rM_st kM_st 90 fM_st), (arI rM_heardRow kM_heardRow 400 fM_heardRow), (arI rM_cutRow kM_cutRow 800 fM_cutRow), (arI rM_trial kM_trial 90 fM_trial)] sz) [(oc7 oM iM_thrown rM_tape iM_taped iM_size iM_at iM_end iM_token iM_whole iM_nameSize iM_fault iM_place iM_trouble rM_letters iM_failed iM_hasCourt rM_r rM_fresh rM_told rM_read rM_st rM_undone rM_kept iM_undos iM_images rM_fresher iM_fresherSize iM_scale iM_night rM_heardRow rM_cutRow niM_breaths niM_cutMany iM_allBreaths rM_trial rM_words iM_fewestBreaths niM_orderMany niM_orderSum niM_leastOrder rM_often iM_setMany iM_someOf iM_allOf iM_allWeight iM_enoughWeight iM_worthSum iM_firstRest iM_leastDrawn), (arI rM_r kM_r 287 fM_r), (arI rM_told kM_told 90 fM_told), (arI rM_st kM_st 90 fM_st), (arI rM_heardRow kM_heardRow 400 nfM_heardRow), (arI rM_cutRow kM_cutRow 800 nfM_cutRow), (arI rM_trial kM_trial 90 nfM_trial)] [(kM_r, .int), (kM_told, .int), (kM_st, .int), (kM_heardRow, .int), (kM_cutRow, .int), (kM_trial, .int)] t) (va_A [(oc7 oM iM_thrown rM_tape iM_taped iM_size iM_at iM_end iM_token iM_whole iM_nameSize iM_fault iM_place iM_trouble rM_letters iM_failed iM_hasCourt rM_r rM_fresh rM_told rM_read rM_st rM_undone rM_kept iM_undos iM_images rM_fresher iM_fresherSize iM_scale iM_night rM_heardRow rM_cutRow iM_breaths iM_cutMany iM_allBreaths rM_trial rM_words iM_fewestBreaths iM_orderMany iM_orderSum iM_leastOrder rM_often iM_setMany iM_someOf iM_allOf iM_allWeight iM_enoughWeight iM_worthSum iM_firstRest iM_leastDrawn), (arI rM_r kM_r 287 fM_r), (arI rM_told kM_told 90 fM_told), (arI rM_st kM_st 90 fM_st), (arI rM_heardRow kM_heardRow 400 fM_heardRow), (arI rM_cutRow kM_cutRow 800 fM_cutRow), (arI rM_trial kM_trial 90 fM_trial)] sz)) 0 0 (va_A [(oc7 oM iM_thrown rM_tape iM_taped iM_size iM_at iM_end iM_token iM_whole iM_nameSize iM_fault iM_place iM_trouble rM_letters iM_failed iM_hasCourt rM_r rM_fresh rM_told rM_read rM_st rM_undone rM_kept iM_undos iM_images rM_fresher iM_fresherSize iM_scale iM_night rM_heardRow rM_cutRow iM_breaths iM_cutMany iM_allBreaths rM_trial rM_words iM_fewestBreaths iM_orderMany iM_orderSum iM_leastOrder rM_often iM_setMany iM_someOf iM_allOf iM_allWeight iM_enoughWeight iM_worthSum iM_firstRest iM_leastDrawn), (arI rM_r kM_r 287 fM_r), (arI rM_told kM_told 90 fM_told), (arI rM_st kM_st 90 fM_st), (arI rM_heardRow kM_heardRow 400 fM_heardRow), (arI rM_cutRow kM_cutRow 800 fM_cutRow), (arI rM_trial kM_trial 90 fM_trial)] sz) := by
  refine Met.ofW (cc := cX7_tryOrders) (maxL := 5) (ret := none) pnX7 rfl ?_
  intro p e s m args below meth c s₁ B hml hv
  obtain ⟨rfl, hsz, hP, hK, hD0, hE⟩ := hv
  have hx := B.exec
  have hb := B.bytes
  have hr := B.returns
  have hts : ∀ w ∈ wG, w.before ([.ref oM, .int p0, .int 2, .int p1] : List Value).toArray s = true := fun w h => atoms_spec (ws := Cond.code yX7_tryOrders cX7_tryOrders 5 none :: wG) B.pre w (List.mem_cons_of_mem _ h)
  have hown : s.vm.findClass RX7 = some m.cls := own_of B.named rfl
  have hlocks := B.notSynchronized
  subst hsz
  have hD := hD0.self (sz := s.heap.size)
  generalize hAe : va_A [(oc7 oM iM_thrown rM_tape iM_taped iM_size iM_at iM_end iM_token iM_whole iM_nameSize iM_fault iM_place iM_trouble rM_letters iM_failed iM_hasCourt rM_r rM_fresh rM_told rM_read rM_st rM_undone rM_kept iM_undos iM_images rM_fresher iM_fresherSize iM_scale iM_night rM_heardRow rM_cutRow iM_breaths iM_cutMany iM_allBreaths rM_trial rM_words iM_fewestBreaths iM_orderMany iM_orderSum iM_leastOrder rM_often iM_setMany iM_someOf iM_allOf iM_allWeight iM_enoughWeight iM_worthSum iM_firstRest iM_leastDrawn), (arI rM_r kM_r 287 fM_r), (arI rM_told kM_told 90 fM_told), (arI rM_st kM_st 90 fM_st), (arI rM_heardRow kM_heardRow 400 fM_heardRow), (arI rM_cutRow kM_cutRow 800 fM_cutRow), (arI rM_trial kM_trial 90 fM_trial)] s.heap.size = A at hD hE ⊢
  have hA : ∀ q : Nat, s.heap.size ≤ q → A q := fun q h => by rw [← hAe]; exact Or.inr h
  have hS : va_S A s.heap s.heap [] := va_S.rf
  have hl := lv_entry ([.ref oM, .int p0, .int 2, .int p1]) (n := 5) (Nat.le_of_ble_eq_true rfl)
  rw [lg_entry_eq]
  generalize (lg_sl ([.ref oM, .int p0, .int 2, .int p1]) ++ List.replicate (5 - (lg_sl ([.ref oM, .int p0, .int 2, .int p1])).length) Slot.unset).toArray = ls at hl ⊢
  have hl : lv_has ls 5 [(0, .ref oM), (1, .int p0), (2, .int 2), (3, .int p1)] := hl
  have hG := PX7_try_2_eq fM_r fM_told fM_st iM_scale fM_heardRow fM_cutRow iM_breaths iM_cutMany fM_trial iM_orderMany iM_orderSum iM_leastOrder p0 p1
  have s_slips := r_R.slips
  have s_nodes := r_R.nodes
  have s_uns := r_R.uns
  have q_p0 := ti_cl (x := p0) rfl hk0.1
  have mn_p0 := r_R.many (27 + p0.toNatClampNeg) (Nat.le_add_right _ _) (om_6c263690 (ti_cl (x := p0) rfl hk0.1) hk0.2 s_nodes.2)
  have kn_p0 := r_R.kind (9 + p0.toNatClampNeg) (Nat.le_add_right _ _) (om_57ce868b (ti_cl (x := p0) rfl hk0.1) hk0.2 s_nodes.2)
  have in_p0 := r_R.inner p0.toNatClampNeg (om_05d4ad0a (ti_cl (x := p0) rfl hk0.1) hk0.2)
  have rowt : ((2 : Nat) : Int) = (fM_r (27 + p0.toNatClampNeg)).toInt → RowOk fM_r fM_trial := fun h9 => TryOk.row r_R r_st htr (by omega) h9
  refine lv_iload_n hx hb dX7_tryOrders_0 rfl (lv_at hl 2 rfl) ?_
  refine lv_aload_n hx hb dX7_tryOrders_1 rfl (lv_at hl 0 rfl) ?_
  refine va_get (D := (dC, dI)) (ci := 7) (v := .ref rM_r) (C := RX7) (T := TX7) (N := 48) hx hb hts inX7 hown hK hP 0 rfl rfl 15 (by decide) (hts _ wd_155) (fun _ h9 => h9) rfl dX7_tryOrders_2 ?_
  refine lv_bipush (v := 27) hx hb dX7_tryOrders_5 (by decide) ?_
  refine lv_iload_n hx hb dX7_tryOrders_7 rfl (lv_at hl 1 rfl) ?_
  refine lv_iadd hx hb dX7_tryOrders_8 ?_
  refine lv_topi (fun x_4001 ex_4001 => ?_)
  have hG := hG.trans (lt_eq ex_4001)
  have vx_4001 : x_4001.toInt = p0.toInt + 27 := om_6c48219a (ti_add ex_4001 kc_27 rfl (om_edd3f7cf hk0.1) (om_cf6669ce hk0.2 s_nodes.2))
  refine va_iald hx hb hK hP 1 0 rfl rfl (ti_in vx_4001 (om_b4b48b7f hk0.1) (om_420abfc6 hk0.2 s_nodes.2)) dX7_tryOrders_9 ?_
  refine lv_topi (fun x_4002 ex_4002 => ?_)
  have hG := hG.trans (lt_eq ex_4002)
  have kx_4002 : (fM_r x_4001.toNatClampNeg).toInt = x_4002.toInt := by rw [ex_4002]
  have cx_4002 : (fM_r (27 + p0.toNatClampNeg)).toInt = x_4002.toInt := by rw [show 27 + p0.toNatClampNeg = x_4001.toNatClampNeg from (om_779a3124 (ti_cl (x := p0) rfl hk0.1) (ti_cl (x := x_4001) vx_4001 (om_b4b48b7f hk0.1)))]; exact kx_4002
  have sx_4002 := r_R.many x_4001.toNatClampNeg (om_ab5399c3 (ti_cl (x := x_4001) vx_4001 (om_b4b48b7f hk0.1)) hk0.1) (om_3b68d876 (ti_cl (x := x_4001) vx_4001 (om_b4b48b7f hk0.1)) hk0.2 s_nodes.2)
  refine lv_icmp_ne (tgt := 67) hx hb dX7_tryOrders_10 (by decide) (fun c_4003 => ?_) (fun c_4003 => ?_)
  · skip
    have hG := hG.trans (if_neg c_4003)
    have gc_4003 := ti_ne c_4003 kc_2 rfl
    refine lv_iconst (v := 0) hx hb dX7_tryOrders_67 (by decide) ?_
    refine lv_istore (lv' := [(4, .int 0), (0, .ref oM), (1, .int p0), (2, .int 2), (3, .int p1)]) hx hb dX7_tryOrders_68 hl (by decide) rfl (fun ls hl => ?_)
    have hl := lv_sub hl (l' := [(4, .int 0), (0, .ref oM), (1, .int p0), (2, .int 2), (3, .int p1)]) [0, 1, 2, 3, 4] rfl
    have key_n_4013 : ∀ (n_4013 : Nat) (z_4004 : Int32) (z_4005 : Int32) (z_4006 : Int32) (z_4007 : Int32) (z_4008 : Int32) (z_4009 : Int32) (f_4010 : Nat → Int32) (f_4011 : Nat → Int32) (f_4012 : Nat → Int32) (H : Heap) (locs : List Loc) (ls : Array Slot), (0 ≤ z_4006.toInt ∧ z_4006.toInt ≤ 399) → (0 ≤ z_4007.toInt ∧ z_4007.toInt ≤ 399) → (0 ≤ z_4004.toInt ∧ z_4004.toInt ≤ (fM_r (27 + p0.toNatClampNeg)).toInt) → (KeepI fM_trial p0.toNatClampNeg 2 f_4010) → (iM_orderMany.toInt ≤ z_4005.toInt ∧ z_4005.toInt ≤ iM_orderMany.toInt + 4 * z_4004.toInt) → (iM_orderMany.toInt + 1 ≤ z_4005.toInt ∨ ∀ q : Nat, (q : Int) < z_4004.toInt → bitN p1 q) → ((fM_r (27 + p0.toNatClampNeg)).toInt - z_4004.toInt).toNat < n_4013 → (PX7_try_2 fM_r fM_told fM_st iM_scale fM_heardRow fM_cutRow iM_breaths iM_cutMany fM_trial iM_orderMany iM_orderSum iM_leastOrder p0 p1 = HX7_try_2_0 fM_r fM_told fM_st iM_scale p0 p1 n_4013 z_4004 z_4005 z_4006 z_4007 z_4008 z_4009 f_4010 f_4011 f_4012) → va_P (dC, dI) vwCl [(oc7 oM iM_thrown rM_tape iM_taped iM_size iM_at iM_end iM_token iM_whole iM_nameSize iM_fault iM_place iM_trouble rM_letters iM_failed iM_hasCourt rM_r rM_fresh rM_told rM_read rM_st rM_undone rM_kept iM_undos iM_images rM_fresher iM_fresherSize iM_scale iM_night rM_heardRow rM_cutRow z_4006 z_4007 iM_allBreaths rM_trial rM_words iM_fewestBreaths z_4005 z_4008 z_4009 rM_often iM_setMany iM_someOf iM_allOf iM_allWeight iM_enoughWeight iM_worthSum iM_firstRest iM_leastDrawn), (arI rM_r kM_r 287 fM_r), (arI rM_told kM_told 90 fM_told), (arI rM_st kM_st 90 fM_st), (arI rM_heardRow kM_heardRow 400 f_4011), (arI rM_cutRow kM_cutRow 800 f_4012), (arI rM_trial kM_trial 90 f_4010)] H → va_D A [(oc7 oM iM_thrown rM_tape iM_taped iM_size iM_at iM_end iM_token iM_whole iM_nameSize iM_fault iM_place iM_trouble rM_letters iM_failed iM_hasCourt rM_r rM_fresh rM_told rM_read rM_st rM_undone rM_kept iM_undos iM_images rM_fresher iM_fresherSize iM_scale iM_night rM_heardRow rM_cutRow z_4006 z_4007 iM_allBreaths rM_trial rM_words iM_fewestBreaths z_4005 z_4008 z_4009 rM_often iM_setMany iM_someOf iM_allOf iM_allWeight iM_enoughWeight iM_worthSum iM_firstRest iM_leastDrawn), (arI rM_r kM_r 287 fM_r), (arI rM_told kM_told 90 fM_told), (arI rM_st kM_st 90 fM_st), (arI rM_heardRow kM_heardRow 400 f_4011), (arI rM_cutRow kM_cutRow 800 f_4012), (arI rM_trial kM_trial 90 f_4010)] → va_S A s.heap H locs → lv_has ls 5 [(4, .int z_4004), (0, .ref oM), (1, .int p0), (2, .int 2), (3, .int p1)] → W p l e (headSpec (Cond.code yX7_tryOrders cX7_tryOrders 5 none :: wG) ({ frames := 24, cells := 0, slots := 0, locals := 672 })).room s m ([.ref oM, .int p0, .int 2, .int p1] : List Value).toArray below meth c H locs 0 0 (MQ below (va_Qv (fun (_ : Nat) => True) (fun (_ : Nat) (t : State) => ∃ (niM_breaths : Int32) (niM_cutMany : Int32) (niM_orderMany : Int32) (niM_orderSum : Int32) (niM_leastOrder : Int32) (nfM_heardRow : Nat → Int32) (nfM_cutRow : Nat → Int32) (nfM_trial : Nat → Int32), (0 ≤ niM_breaths.toInt ∧ niM_breaths.toInt ≤ 399) ∧ (0 ≤ niM_cutMany.toInt ∧ niM_cutMany.toInt ≤ 399) ∧ (iM_orderMany.toInt + 1 ≤ niM_orderMany.toInt ∧ niM_orderMany.toInt ≤ iM_orderMany.toInt + 16) ∧ (KeepI fM_trial p0.toNatClampNeg 2 nfM_trial) ∧ (PX7_try_2 fM_r fM_told fM_st iM_scale fM_heardRow fM_cutRow iM_breaths iM_cutMany fM_trial iM_orderMany iM_orderSum iM_leastOrder p0 p1 = (niM_breaths, niM_cutMany, niM_orderMany, niM_orderSum, niM_leastOrder, nfM_heardRow, nfM_cutRow, nfM_trial)) ∧ Bw dC dI A [(oc7 oM iM_thrown rM_tape iM_taped iM_size iM_at iM_end iM_token iM_whole iM_nameSize iM_fault iM_place iM_trouble rM_letters iM_failed iM_hasCourt rM_r rM_fresh rM_told rM_read rM_st rM_undone rM_kept iM_undos iM_images rM_fresher iM_fresherSize iM_scale iM_night rM_heardRow rM_cutRow niM_breaths niM_cutMany iM_allBreaths rM_trial rM_words iM_fewestBreaths niM_orderMany niM_orderSum niM_leastOrder rM_often iM_setMany iM_someOf iM_allOf iM_allWeight iM_enoughWeight iM_worthSum iM_firstRest iM_leastDrawn), (arI rM_r kM_r 287 fM_r), (arI rM_told kM_told 90 fM_told), (arI rM_st kM_st 90 fM_st), (arI rM_heardRow kM_heardRow 400 nfM_heardRow), (arI rM_cutRow kM_cutRow 800 nfM_cutRow), (arI rM_trial kM_trial 90 nfM_trial)] [(kM_r, .int), (kM_told, .int), (kM_st, .int), (kM_heardRow, .int), (kM_cutRow, .int), (kM_trial, .int)] t) A) ([.ref oM, .int p0, .int 2, .int p1] : List Value).toArray s 0 0 A) (F0 m 70 ls []) := by
      intro n_4013
      induction n_4013 with
      | zero => intro z_4004 z_4005 z_4006 z_4007 z_4008 z_4009 f_4010 f_4011 f_4012 H locs ls b_z_4006 b_z_4007 hi0_n_4013 hi1_n_4013 hi2_n_4013 hi3_n_4013 hm; exact absurd hm (Nat.not_lt_zero _)
      | succ n_4013 ih_n_4013 =>
        intro z_4004 z_4005 z_4006 z_4007 z_4008 z_4009 f_4010 f_4011 f_4012 H locs ls b_z_4006 b_z_4007 hi0_n_4013 hi1_n_4013 hi2_n_4013 hi3_n_4013 hm_n_4013 hG hP hD hS hl
        have hG := hG.trans (HX7_try_2_0_eq _ _ _ _ _ _ _ _ _ _ _ _ _ _ _ _)
        refine lv_iload hx hb dX7_tryOrders_70 (lv_at hl 0 rfl) ?_
        refine lv_aload_n hx hb dX7_tryOrders_72 rfl (lv_at hl 1 rfl) ?_
        refine va_get (D := (dC, dI)) (ci := 7) (v := .ref rM_r) (C := RX7) (T := TX7) (N := 48) hx hb hts inX7 hown hK hP 0 rfl rfl 15 (by decide) (hts _ wd_155) (fun _ h9 => h9) rfl dX7_tryOrders_73 ?_
        refine lv_bipush (v := 27) hx hb dX7_tryOrders_76 (by decide) ?_
        refine lv_iload_n hx hb dX7_tryOrders_78 rfl (lv_at hl 2 rfl) ?_
        refine lv_iadd hx hb dX7_tryOrders_79 ?_
        refine lv_topi (fun x_4014 ex_4014 => ?_)
        have hG := hG.trans (lt_eq ex_4014)
        have vx_4014 : x_4014.toInt = p0.toInt + 27 := om_6c48219a (ti_add ex_4014 kc_27 rfl (om_edd3f7cf hk0.1) (om_cf6669ce hk0.2 s_nodes.2))
        refine va_iald hx hb hK hP 1 0 rfl rfl (ti_in vx_4014 (om_b4b48b7f hk0.1) (om_420abfc6 hk0.2 s_nodes.2)) dX7_tryOrders_80 ?_
        refine lv_topi (fun x_4015 ex_4015 => ?_)
        have hG := hG.trans (lt_eq ex_4015)
        have kx_4015 : (fM_r x_4014.toNatClampNeg).toInt = x_4015.toInt := by rw [ex_4015]
        have cx_4015 : (fM_r (27 + p0.toNatClampNeg)).toInt = x_4015.toInt := by rw [show 27 + p0.toNatClampNeg = x_4014.toNatClampNeg from (om_779a3124 (ti_cl (x := p0) rfl hk0.1) (ti_cl (x := x_4014) vx_4014 (om_b4b48b7f hk0.1)))]; exact kx_4015
        have sx_4015 := r_R.many x_4014.toNatClampNeg (om_ab5399c3 (ti_cl (x := x_4014) vx_4014 (om_b4b48b7f hk0.1)) hk0.1) (om_3b68d876 (ti_cl (x := x_4014) vx_4014 (om_b4b48b7f hk0.1)) hk0.2 s_nodes.2)
        refine lv_icmp_ge (tgt := 137) hx hb dX7_tryOrders_81 (by decide) (fun c_4016 => ?_) (fun c_4016 => ?_)
        · skip
          have hG := hG.trans (if_pos c_4016)
          have gc_4016 := ti_le c_4016 rfl rfl
          exact wq_v hx hb hr 0 trivial (fun t ht hW => ⟨z_4006, z_4007, z_4005, z_4008, z_4009, f_4011, f_4012, f_4010, b_z_4006, b_z_4007, (by rcases hi3_n_4013 with h9 | h9; omega; exact absurd (cnt_full (P := bitN p1) (fM_r (27 + p0.toNatClampNeg)).toInt.toNat (fun q hq => h9 q (by omega))) (by rw [hcn]; omega)), (by assumption), hG, Bw.to hP hD hK ht hW⟩) hS dX7_tryOrders_137 hlocks
        · skip
          have hG := hG.trans (if_neg c_4016)
          have gc_4016 := ti_nle c_4016 rfl rfl
          refine lv_iload_n hx hb dX7_tryOrders_84 rfl (lv_at hl 4 rfl) ?_
          refine lv_iload hx hb dX7_tryOrders_85 (lv_at hl 0 rfl) ?_
          have hFc : ∀ q, va_A [] _ q → A q := fun q h => hA q (Nat.le_trans hS.1 (va_nilA h))
          refine va_calli (va_runS (As := [.int p1, .int z_4004]) (rest := []) ⟨hx, hb, hml, hown, hts⟩ (tX7_hasBit l dC dI _ p1 z_4004 ) (va_cwS 2 hts (wd_S wd_968 wd_969 wd_5 (wd_c wd_970)) rfl rfl rfl ds_yX7_hasBit_2 ⟨Nat.le_of_ble_eq_true rfl, Nat.le_of_ble_eq_true rfl⟩) ⟨Pw.fb, fun U hU hW => Pn.to hK hE hS hA hU hW⟩ rfl rfl hl.1 rfl (lv_room (Nat.le_of_ble_eq_true rfl)) dX7_tryOrders_87 ⟨Nat.le_of_ble_eq_true rfl, Nat.le_of_ble_eq_true rfl⟩) hS (fun q _ h => hFc q h) hFc (fun r u t H locs ht hvm hw hB hz1 hk1 hS => ?_)
          obtain ⟨hP, hD, hK⟩ := Bw.same ht hvm hP hD hK hk1 hFc
          clear hz1 hk1 hvm ht hB
          have hq9 := hw.2
          have hw := hw.1
          obtain ⟨x_4017, rfl⟩ : ∃ z, z = r := ⟨_, rfl⟩
          have hq_x_4017 := hq9
          have hG := hG.trans (lt_eq hq_x_4017.symm)
          have bx_4017 := hw.1
          have dx_4017 := bz_tb bx_4017
          have px_4017 := hw.2
          rcases px_4017 with ⟨gx_4017, hx_4017⟩ | ⟨gx_4017, hx_4017⟩
          · skip
            have g9x_4017 : x_4017.toInt = 1 := by rw [gx_4017]; exact kc_1
            have hb9 : bitN p1 z_4004.toNatClampNeg := (tb_bit (by omega) (by omega)).mp hx_4017
            refine lv_if_eq (tgt := 96) hx hb dX7_tryOrders_90 (by decide) (fun c_4018 => ?_) (fun c_4018 => ?_)
            · skip
              have hG := hG.trans (if_pos c_4018)
              have gc_4018 := ti_eq c_4018 rfl kc_0
              exfalso; clear hG; omega
            · skip
              have hG := hG.trans (if_neg c_4018)
              have gc_4018 := ti_ne c_4018 rfl kc_0
              refine lv_goto (tgt := 131) hx hb dX7_tryOrders_93 (by decide) ?_
              obtain ⟨x_4019, ex_4019⟩ : ∃ z : Int32, z = z_4004 + Int32.ofInt 1 := ⟨_, rfl⟩
              have hG := hG.trans (lt_eq ex_4019)
              have vx_4019 : x_4019.toInt = z_4004.toInt + 1 := ti_add (y := 1) ex_4019 rfl kc_1 (om_4e4fce7e hi0_n_4013.1) (om_d6392c09 mn_p0.2 hi0_n_4013.2)
              refine lv_iinc (v := x_4019) (lv' := [(4, .int x_4019), (0, .ref oM), (1, .int p0), (2, .int 2), (3, .int p1)]) hx hb dX7_tryOrders_131 hl (k := 0) rfl ex_4019.symm (by decide) rfl (fun ls hl => ?_)
              refine lv_goto (tgt := 70) hx hb dX7_tryOrders_134 (by decide) ?_
              exact ih_n_4013 x_4019 z_4005 z_4006 z_4007 z_4008 z_4009 f_4010 f_4011 f_4012 _ _ _ b_z_4006 b_z_4007 ⟨(om_83b90de5 hi0_n_4013.1 vx_4019), (om_1ad1f819 cx_4015 gc_4016 vx_4019)⟩ (by first | assumption | omega | decide) ⟨hi2_n_4013.1, (om_69475dac hi2_n_4013.2 vx_4019)⟩ (by rcases hi3_n_4013 with h9 | h9; exact Or.inl (by omega); exact Or.inr (fun q hq => by by_cases e9 : q = z_4004.toNatClampNeg; (rw [e9]; exact hb9); exact h9 q (by have q1 := ti_cl (x := z_4004) rfl hi0_n_4013.1; omega))) (ms_lt hm_n_4013 (om_dd4ae0bc vx_4019) (om_6d498008 cx_4015 gc_4016)) hG hP hD hS (lv_sub hl [0, 1, 2, 3, 4] rfl)
          · skip
            have g9x_4017 : x_4017.toInt = 0 := by rw [gx_4017]; exact kc_0
            have hb9 : ¬ bitN p1 z_4004.toNatClampNeg := fun z9 => hx_4017 ((tb_bit (by omega) (by omega)).mpr z9)
            refine lv_if_eq (tgt := 96) hx hb dX7_tryOrders_90 (by decide) (fun c_4020 => ?_) (fun c_4020 => ?_)
            · skip
              have hG := hG.trans (if_pos c_4020)
              have gc_4020 := ti_eq c_4020 rfl kc_0
              refine lv_aload_n hx hb dX7_tryOrders_96 rfl (lv_at hl 1 rfl) ?_
              refine va_get (D := (dC, dI)) (ci := 7) (v := .ref rM_trial) (C := RX7) (T := TX7) (N := 48) hx hb hts inX7 hown hK hP 0 rfl rfl 33 (by decide) (hts _ wd_167) (fun _ h9 => h9) rfl dX7_tryOrders_97 ?_
              refine lv_iconst (v := 4) hx hb dX7_tryOrders_100 (by decide) ?_
              refine lv_iload_n hx hb dX7_tryOrders_101 rfl (lv_at hl 2 rfl) ?_
              refine lv_imul hx hb dX7_tryOrders_102 ?_
              refine lv_topi (fun x_4021 ex_4021 => ?_)
              have hG := hG.trans (lt_eq ex_4021)
              have vx_4021 : x_4021.toInt = 4 * p0.toInt := ti_mul ex_4021 kc_4 rfl (om_56b74365 hk0.1) (om_eac0354e hk0.2 s_nodes.2)
              refine lv_iload_n hx hb dX7_tryOrders_103 rfl (lv_at hl 3 rfl) ?_
              refine lv_iadd hx hb dX7_tryOrders_104 ?_
              refine lv_topi (fun x_4022 ex_4022 => ?_)
              have hG := hG.trans (lt_eq ex_4022)
              have vx_4022 : x_4022.toInt = 4 * p0.toInt + 2 := om_20bf1cb9 (ti_add ex_4022 vx_4021 kc_2 (om_ba88833f hk0.1) (om_48fb4260 hk0.2 s_nodes.2))
              refine lv_aload_n hx hb dX7_tryOrders_105 rfl (lv_at hl 1 rfl) ?_
              refine va_get (D := (dC, dI)) (ci := 7) (v := .ref rM_st) (C := RX7) (T := TX7) (N := 48) hx hb hts inX7 hown hK hP 0 rfl rfl 19 (by decide) (hts _ wd_159) (fun _ h9 => h9) rfl dX7_tryOrders_106 ?_
              refine lv_iconst (v := 4) hx hb dX7_tryOrders_109 (by decide) ?_
              refine lv_iload_n hx hb dX7_tryOrders_110 rfl (lv_at hl 2 rfl) ?_
              refine lv_imul hx hb dX7_tryOrders_111 ?_
              refine lv_topi (fun x_4023 ex_4023 => ?_)
              have hG := hG.trans (lt_eq ex_4023)
              have vx_4023 : x_4023.toInt = 4 * p0.toInt := ti_mul ex_4023 kc_4 rfl (om_56b74365 hk0.1) (om_eac0354e hk0.2 s_nodes.2)
              refine lv_iload hx hb dX7_tryOrders_112 (lv_at hl 0 rfl) ?_
              refine lv_iadd hx hb dX7_tryOrders_114 ?_
              refine lv_topi (fun x_4024 ex_4024 => ?_)
              have hG := hG.trans (lt_eq ex_4024)
              have vx_4024 : x_4024.toInt = 4 * p0.toInt + z_4004.toInt := om_5d0caf0f (ti_add ex_4024 vx_4023 rfl (om_056a216f hk0.1 hi0_n_4013.1) (om_da12a7f8 hk0.2 s_nodes.2 mn_p0.2 hi0_n_4013.2))
              refine va_iald hx hb hK hP 3 2 rfl rfl (ti_in vx_4024 (om_fc2812d4 hk0.1 hi0_n_4013.1) (om_01db022b hk0.2 s_nodes.2 mn_p0.2 hi0_n_4013.2)) dX7_tryOrders_115 ?_
              refine lv_topi (fun x_4025 ex_4025 => ?_)
              have hG := hG.trans (lt_eq ex_4025)
              have kx_4025 : (fM_st x_4024.toNatClampNeg).toInt = x_4025.toInt := by rw [ex_4025]
              have cx_4025 : (fM_st (4 * p0.toNatClampNeg + z_4004.toNatClampNeg)).toInt = x_4025.toInt := by rw [show 4 * p0.toNatClampNeg + z_4004.toNatClampNeg = x_4024.toNatClampNeg from (om_4de36627 (ti_cl (x := p0) rfl hk0.1) (ti_cl (x := z_4004) rfl hi0_n_4013.1) (ti_cl (x := x_4024) vx_4024 (om_fc2812d4 hk0.1 hi0_n_4013.1)))]; exact kx_4025
              have wx_4025 : 0 ≤ x_4025.toInt ∧ x_4025.toInt < p0.toInt := row_lt r_st (i := z_4004.toNatClampNeg) (ti_cl (x := p0) rfl hk0.1) (ti_cl (x := z_4004) rfl hi0_n_4013.1) hk0.2 (om_644b432c cx_4015 gc_4016) (om_24300f0a (ti_cl (x := p0) rfl hk0.1) (ti_cl (x := z_4004) rfl hi0_n_4013.1)) cx_4025
              refine va_iast hx hb hK hP hD hS 6 5 rfl rfl (ti_in vx_4022 (om_b176946d hk0.1) (om_815cc0f0 hk0.2 s_nodes.2)) dX7_tryOrders_116 (fun H locs hP hD hS => ?_)
              obtain ⟨f_4026, ef_4026⟩ : ∃ g : Nat → Int32, g = upd f_4010 x_4022.toNatClampNeg x_4025 := ⟨_, rfl⟩
              rw [← ef_4026] at hP hD
              have hG := hG.trans (lt_eq ef_4026)
              obtain ⟨hP, hD⟩ := wl2 (ws' := [(oc7 oM iM_thrown rM_tape iM_taped iM_size iM_at iM_end iM_token iM_whole iM_nameSize iM_fault iM_place iM_trouble rM_letters iM_failed iM_hasCourt rM_r rM_fresh rM_told rM_read rM_st rM_undone rM_kept iM_undos iM_images rM_fresher iM_fresherSize iM_scale iM_night rM_heardRow rM_cutRow z_4006 z_4007 iM_allBreaths rM_trial rM_words iM_fewestBreaths z_4005 z_4008 z_4009 rM_often iM_setMany iM_someOf iM_allOf iM_allWeight iM_enoughWeight iM_worthSum iM_firstRest iM_leastDrawn), (arI rM_r kM_r 287 fM_r), (arI rM_told kM_told 90 fM_told), (arI rM_st kM_st 90 fM_st), (arI rM_heardRow kM_heardRow 400 f_4011), (arI rM_cutRow kM_cutRow 800 f_4012), (arI rM_trial kM_trial 90 f_4026)]) hP hD rfl
              refine lv_aload_n hx hb dX7_tryOrders_117 rfl (lv_at hl 1 rfl) ?_
              refine lv_iload_n hx hb dX7_tryOrders_118 rfl (lv_at hl 2 rfl) ?_
              refine lv_iload_n hx hb dX7_tryOrders_119 rfl (lv_at hl 3 rfl) ?_
              refine lv_iconst (v := 1) hx hb dX7_tryOrders_120 (by decide) ?_
              refine lv_iadd hx hb dX7_tryOrders_121 ?_
              refine lv_topi (fun x_4027 ex_4027 => ?_)
              obtain rfl : x_4027 = 3 := ex_4027.trans (by decide)
              refine lv_iload_n hx hb dX7_tryOrders_122 rfl (lv_at hl 4 rfl) ?_
              refine lv_iconst (v := 1) hx hb dX7_tryOrders_123 (by decide) ?_
              refine lv_iload hx hb dX7_tryOrders_124 (lv_at hl 0 rfl) ?_
              refine lv_ishl hx hb dX7_tryOrders_126 ?_
              refine lv_topi (fun x_4028 ex_4028 => ?_)
              have hG := hG.trans (lt_eq ex_4028)
              have qx_4028 := ti_shl ex_4028 rfl (by omega) (by omega)
              refine lv_ior hx hb dX7_tryOrders_127 ?_
              refine lv_topi (fun x_4029 ex_4029 => ?_)
              have hG := hG.trans (lt_eq ex_4029)
              have q_P := ti_cl (x := z_4004) rfl hi0_n_4013.1
              have ob9 := or_bit (u := p1) (p := z_4004) (v := x_4029) (x := x_4028) (by omega) (by omega) ex_4028 ex_4029
              have ob8 := ob9.1
              have cn9 : cntP (bitN x_4029) (fM_r (27 + p0.toNatClampNeg)).toInt.toNat = 3 := by rw [cnt_more (P := bitN p1) (p := z_4004.toNatClampNeg) (fM_r (27 + p0.toNatClampNeg)).toInt.toNat (by omega) hb9 (fun q hq => ob9.2 q (by omega)), hcn]
              have hq9 : x_4022.toNatClampNeg = 4 * p0.toNatClampNeg + 2 := by have q1 := ti_cl (x := x_4022) vx_4022 (om_b176946d hk0.1); have q2 := ti_cl (x := p0) rfl hk0.1; omega
              have tr9 : TryOk fM_r fM_st f_4026 p0.toNatClampNeg 3 x_4029 := try_step (p := z_4004.toNatClampNeg) r_R r_st (by omega) htr hi1_n_4013 ef_4026 hq9 (by have q := cx_4025; omega) (by omega) (by decide) hb9 ob9.2
              have hFc := va_freeI hD hS hA
              refine va_callv (va_runV (As := [.int p0, .int 3, .int x_4029]) (rest := []) ⟨hx, hb, hml, hown, hts⟩ (tX7_try_3 l dC dI _ oM iM_thrown rM_tape iM_taped iM_size iM_at iM_end iM_token iM_whole iM_nameSize iM_fault iM_place iM_trouble rM_letters iM_failed iM_hasCourt rM_r fM_r kM_r rM_fresh rM_told fM_told kM_told rM_read rM_st fM_st kM_st rM_undone rM_kept iM_undos iM_images rM_fresher iM_fresherSize iM_scale iM_night rM_heardRow f_4011 kM_heardRow rM_cutRow f_4012 kM_cutRow z_4006 z_4007 iM_allBreaths rM_trial f_4026 kM_trial rM_words iM_fewestBreaths z_4005 z_4008 z_4009 rM_often iM_setMany iM_someOf iM_allOf iM_allWeight iM_enoughWeight iM_worthSum iM_firstRest iM_leastDrawn p0 x_4029 b_iM_taped b_iM_size b_iM_end b_iM_failed b_iM_hasCourt b_iM_undos b_iM_images b_iM_scale b_z_4006 b_z_4007 (by assumption) (by assumption) (by assumption) (by assumption) (by assumption) ⟨hk0.1, hk0.2⟩ ⟨hth.1, hth.2⟩ (by first | assumption | (have q0 := kc_0; have q1 := kc_1; have q2 := kc_3; first | exact ⟨by omega, by omega⟩ | omega) | decide | (intro h; exact absurd h (by decide))) (by first | assumption | (have q0 := kc_0; have q1 := kc_1; have q2 := kc_3; first | exact ⟨by omega, by omega⟩ | omega) | decide | (intro h; exact absurd h (by decide))) (by first | assumption | (have q0 := kc_0; have q1 := kc_1; have q2 := kc_3; first | exact ⟨by omega, by omega⟩ | omega) | decide | (intro h; exact absurd h (by decide))) (by first | assumption | (have q0 := kc_0; have q1 := kc_1; have q2 := kc_3; first | exact ⟨by omega, by omega⟩ | omega) | decide | (intro h; exact absurd h (by decide))) ⟨(om_11cc87cb hom.1 hi2_n_4013.1), (om_411a6de6 hom.2 mn_p0.2 hi2_n_4013.2 cx_4015 gc_4016)⟩) (cwV 3 hts (wd_V wd_1071 wd_1072 wd_1073 wd_5 (wd_c wd_1074)) rfl rfl rfl (by decide +kernel) ⟨Nat.le_of_ble_eq_true rfl, Nat.le_of_ble_eq_true rfl⟩) ⟨Pw.fb, recvX7 hK hP (q0 := 0) rfl, fun U hU hW => Pw.to hP hD hK hE hS hFc hU hW⟩ rfl rfl hl.1 rfl (lv_room (Nat.le_of_ble_eq_true rfl)) dX7_tryOrders_128 ⟨Nat.le_of_ble_eq_true rfl, Nat.le_of_ble_eq_true rfl⟩) hS (fun q _ h => hFc q h) hFc (fun u t H locs ht hvm hw hB hz1 hk1 hS => ?_)
              refine ex_8_5 hB (fun x_4030 x_4031 x_4032 x_4033 x_4034 f_4035 f_4036 f_4037 b_x_4030 b_x_4031 e_x_4030_0 e_x_4030_1 e_x_4030_2 hB => ?_)
              obtain ⟨hP, hD⟩ := Bw.goA (ws' := [(oc7 oM iM_thrown rM_tape iM_taped iM_size iM_at iM_end iM_token iM_whole iM_nameSize iM_fault iM_place iM_trouble rM_letters iM_failed iM_hasCourt rM_r rM_fresh rM_told rM_read rM_st rM_undone rM_kept iM_undos iM_images rM_fresher iM_fresherSize iM_scale iM_night rM_heardRow rM_cutRow x_4030 x_4031 iM_allBreaths rM_trial rM_words iM_fewestBreaths x_4032 x_4033 x_4034 rM_often iM_setMany iM_someOf iM_allOf iM_allWeight iM_enoughWeight iM_worthSum iM_firstRest iM_leastDrawn), (arI rM_r kM_r 287 fM_r), (arI rM_told kM_told 90 fM_told), (arI rM_st kM_st 90 fM_st), (arI rM_heardRow kM_heardRow 400 f_4035), (arI rM_cutRow kM_cutRow 800 f_4036), (arI rM_trial kM_trial 90 f_4037)]) hB rfl ht hFc rfl
              clear hz1 hk1 hvm ht hB
              have kp9 : KeepI fM_trial p0.toNatClampNeg 2 f_4037 := keep_step hi1_n_4013 ef_4026 hq9 (by decide) (i' := 3) e_x_4030_1 rfl
              have hG := hG.trans (un8_eq e_x_4030_2)
              obtain ⟨x_4038, ex_4038⟩ : ∃ z : Int32, z = z_4004 + Int32.ofInt 1 := ⟨_, rfl⟩
              have hG := hG.trans (lt_eq ex_4038)
              have vx_4038 : x_4038.toInt = z_4004.toInt + 1 := ti_add (y := 1) ex_4038 rfl kc_1 (om_4e4fce7e hi0_n_4013.1) (om_d6392c09 mn_p0.2 hi0_n_4013.2)
              refine lv_iinc (v := x_4038) (lv' := [(4, .int x_4038), (0, .ref oM), (1, .int p0), (2, .int 2), (3, .int p1)]) hx hb dX7_tryOrders_131 hl (k := 0) rfl ex_4038.symm (by decide) rfl (fun ls hl => ?_)
              refine lv_goto (tgt := 70) hx hb dX7_tryOrders_134 (by decide) ?_
              exact ih_n_4013 x_4038 x_4032 x_4030 x_4031 x_4033 x_4034 f_4037 f_4035 f_4036 _ _ _ b_x_4030 b_x_4031 ⟨(om_83b90de5 hi0_n_4013.1 vx_4038), (om_1ad1f819 cx_4015 gc_4016 vx_4038)⟩ kp9 ⟨(om_a2451a67 hi2_n_4013.1 e_x_4030_0.1), (om_ce54b0dc hi2_n_4013.2 e_x_4030_0.2 vx_4038)⟩ (Or.inl (by omega)) (ms_lt hm_n_4013 (om_dd4ae0bc vx_4038) (om_6d498008 cx_4015 gc_4016)) hG hP hD hS (lv_sub hl [0, 1, 2, 3, 4] rfl)
            · skip
              have hG := hG.trans (if_neg c_4020)
              have gc_4020 := ti_ne c_4020 rfl kc_0
              exfalso; clear hG; omega
    exact key_n_4013 ((((fM_r (27 + p0.toNatClampNeg)).toInt - (0 : Int32).toInt).toNat) + 1) 0 iM_orderMany iM_breaths iM_cutMany iM_orderSum iM_leastOrder fM_trial fM_heardRow fM_cutRow _ _ _ ⟨b_iM_breaths.1, b_iM_breaths.2⟩ ⟨b_iM_cutMany.1, b_iM_cutMany.2⟩ ⟨(om_b1de7dbe kc_0), (om_33997cc5 him kc_0)⟩ (by first | assumption | omega | decide | exact keep_refl | exact Or.inr (fun q hq => absurd hq (by have q0 := kc_0; omega))) ⟨om_1cb5f934, (om_00be785e kc_0)⟩ (by first | (have q0 := kc_0; have q1 := kc_1; omega) | decide | assumption | exact keep_refl | exact Or.inr (fun q hq => absurd hq (by have q0 := kc_0; omega))) (Nat.lt_add_one _) hG hP hD hS hl
  · skip
    have hG := hG.trans (if_pos c_4003)
    have gc_4003 := ti_eq c_4003 kc_2 rfl
    refine lv_aload_n hx hb dX7_tryOrders_13 rfl (lv_at hl 0 rfl) ?_
    refine lv_aload_n hx hb dX7_tryOrders_14 rfl (lv_at hl 0 rfl) ?_
    refine va_get (D := (dC, dI)) (ci := 7) (v := .ref rM_trial) (C := RX7) (T := TX7) (N := 48) hx hb hts inX7 hown hK hP 0 rfl rfl 33 (by decide) (hts _ wd_167) (fun _ h9 => h9) rfl dX7_tryOrders_15 ?_
    have hMs := ml_of hD [true, true, true, false, true, true, true] (wc := [(oc7 oM iM_thrown rM_tape iM_taped iM_size iM_at iM_end iM_token iM_whole iM_nameSize iM_fault iM_place iM_trouble rM_letters iM_failed iM_hasCourt rM_r rM_fresh rM_told rM_read rM_st rM_undone rM_kept iM_undos iM_images rM_fresher iM_fresherSize iM_scale iM_night rM_heardRow rM_cutRow iM_breaths iM_cutMany iM_allBreaths rM_trial rM_words iM_fewestBreaths iM_orderMany iM_orderSum iM_leastOrder rM_often iM_setMany iM_someOf iM_allOf iM_allWeight iM_enoughWeight iM_worthSum iM_firstRest iM_leastDrawn), (arI rM_r kM_r 287 fM_r), (arI rM_told kM_told 90 fM_told), (arI rM_heardRow kM_heardRow 400 fM_heardRow), (arI rM_cutRow kM_cutRow 800 fM_cutRow), (arI rM_trial kM_trial 90 fM_trial)]) rfl
    have hFc := va_freeM hD hS hA _ hMs
    refine va_calli (va_runV (As := [.ref rM_trial]) (rest := []) ⟨hx, hb, hml, hown, hts⟩ (tX7_breathsBy l dC dI _ oM iM_thrown rM_tape iM_taped iM_size iM_at iM_end iM_token iM_whole iM_nameSize iM_fault iM_place iM_trouble rM_letters iM_failed iM_hasCourt rM_r fM_r kM_r rM_fresh rM_told fM_told kM_told rM_read rM_st rM_undone rM_kept iM_undos iM_images rM_fresher iM_fresherSize iM_scale iM_night rM_heardRow fM_heardRow kM_heardRow rM_cutRow fM_cutRow kM_cutRow iM_breaths iM_cutMany iM_allBreaths rM_trial rM_words iM_fewestBreaths iM_orderMany iM_orderSum iM_leastOrder rM_often iM_setMany iM_someOf iM_allOf iM_allWeight iM_enoughWeight iM_worthSum iM_firstRest iM_leastDrawn rM_trial fM_trial kM_trial b_iM_taped b_iM_size b_iM_end b_iM_failed b_iM_hasCourt b_iM_undos b_iM_images b_iM_scale b_iM_breaths b_iM_cutMany (by assumption) (by assumption) (by assumption) (by first | assumption | exact rowt (by omega)) ⟨hth.1, hth.2⟩) (cwV 1 hts (wd_V wd_769 wd_770 wd_771 wd_5 (wd_c wd_772)) rfl rfl rfl dv_yX7_breathsBy_1 ⟨Nat.le_of_ble_eq_true rfl, Nat.le_of_ble_eq_true rfl⟩) ⟨Pw.fb, recvX7 hK hP (q0 := 0) rfl, fun U hU hW => Pw.to (hP.ms _ hMs) (hD.ms _ hMs) (hK.ms [true, true, false, true, true, true] rfl) hE hS hFc hU hW⟩ rfl rfl hl.1 rfl (lv_room (Nat.le_of_ble_eq_true rfl)) dX7_tryOrders_18 ⟨Nat.le_of_ble_eq_true rfl, Nat.le_of_ble_eq_true rfl⟩) hS (fun q _ h => hFc q h) hFc (fun r u t H locs ht hvm hw hB hz1 hk1 hS => ?_)
    have hru9 := hw.2
    have hw := hw.1
    refine ex_4_3 hB (fun x_4039 x_4040 f_4041 f_4042 b_x_4039 b_x_4040 e_x_4039_0 hB => ?_)
    obtain ⟨hP, hD⟩ := Bw.goN (ws' := [(oc7 oM iM_thrown rM_tape iM_taped iM_size iM_at iM_end iM_token iM_whole iM_nameSize iM_fault iM_place iM_trouble rM_letters iM_failed iM_hasCourt rM_r rM_fresh rM_told rM_read rM_st rM_undone rM_kept iM_undos iM_images rM_fresher iM_fresherSize iM_scale iM_night rM_heardRow rM_cutRow x_4039 x_4040 iM_allBreaths rM_trial rM_words iM_fewestBreaths iM_orderMany iM_orderSum iM_leastOrder rM_often iM_setMany iM_someOf iM_allOf iM_allWeight iM_enoughWeight iM_worthSum iM_firstRest iM_leastDrawn), (arI rM_r kM_r 287 fM_r), (arI rM_told kM_told 90 fM_told), (arI rM_st kM_st 90 fM_st), (arI rM_heardRow kM_heardRow 400 f_4041), (arI rM_cutRow kM_cutRow 800 f_4042), (arI rM_trial kM_trial 90 fM_trial)]) hB rfl ht hP hD _ hMs hk1 hFc rfl
    clear hz1 hk1 hvm ht hB hMs
    rw [← hru9] at e_x_4039_0
    obtain ⟨x_4043, rfl⟩ : ∃ z, z = r := ⟨_, rfl⟩
    have hG := hG.trans (un5_eq e_x_4039_0)
    have ux_4043 := hw.2
    refine lv_istore (lv' := [(4, .int x_4043), (0, .ref oM), (1, .int p0), (2, .int 2), (3, .int p1)]) hx hb dX7_tryOrders_21 hl (by decide) rfl (fun ls hl => ?_)
    refine lv_aload_n hx hb dX7_tryOrders_23 rfl (lv_at hl 1 rfl) ?_
    refine lv_dup hx hb dX7_tryOrders_24 rfl ?_
    refine va_get (D := (dC, dI)) (ci := 7) (v := .int iM_orderMany) (C := RX7) (T := TX7) (N := 48) hx hb hts inX7 hown hK hP 0 rfl rfl 36 (by decide) (hts _ wd_1065) (fun _ h9 => h9) rfl dX7_tryOrders_25 ?_
    refine lv_iconst (v := 1) hx hb dX7_tryOrders_28 (by decide) ?_
    refine lv_iadd hx hb dX7_tryOrders_29 ?_
    refine lv_topi (fun x_4044 ex_4044 => ?_)
    have hG := hG.trans (lt_eq ex_4044)
    have vx_4044 : x_4044.toInt = iM_orderMany.toInt + 1 := ti_add ex_4044 rfl kc_1 (om_4e4fce7e hom.1) (om_b31b3835 hom.2)
    refine va_put (D := (dC, dI)) (ci := 7) (v := .int x_4044) (ty := .int) (C := RX7) (T := TX7) (N := 48) hx hb hts inX7 tyX7 tyX7_ok nmX7 hown hK hP hD hS 0 rfl rfl 36 (by decide) (hts _ wd_1065) (fun _ h9 => h9) rfl (by decide +kernel) rfl rfl (Nat.le_of_ble_eq_true rfl) dX7_tryOrders_30 (fun H locs hP hD hS => ?_)
    obtain ⟨hP, hD⟩ := wl2 (ws' := [(oc7 oM iM_thrown rM_tape iM_taped iM_size iM_at iM_end iM_token iM_whole iM_nameSize iM_fault iM_place iM_trouble rM_letters iM_failed iM_hasCourt rM_r rM_fresh rM_told rM_read rM_st rM_undone rM_kept iM_undos iM_images rM_fresher iM_fresherSize iM_scale iM_night rM_heardRow rM_cutRow x_4039 x_4040 iM_allBreaths rM_trial rM_words iM_fewestBreaths x_4044 iM_orderSum iM_leastOrder rM_often iM_setMany iM_someOf iM_allOf iM_allWeight iM_enoughWeight iM_worthSum iM_firstRest iM_leastDrawn), (arI rM_r kM_r 287 fM_r), (arI rM_told kM_told 90 fM_told), (arI rM_st kM_st 90 fM_st), (arI rM_heardRow kM_heardRow 400 f_4041), (arI rM_cutRow kM_cutRow 800 f_4042), (arI rM_trial kM_trial 90 fM_trial)]) hP hD rfl
    refine lv_aload_n hx hb dX7_tryOrders_33 rfl (lv_at hl 1 rfl) ?_
    refine lv_dup hx hb dX7_tryOrders_34 rfl ?_
    refine va_get (D := (dC, dI)) (ci := 7) (v := .int iM_orderSum) (C := RX7) (T := TX7) (N := 48) hx hb hts inX7 hown hK hP 0 rfl rfl 37 (by decide) (hts _ wd_1064) (fun _ h9 => h9) rfl dX7_tryOrders_35 ?_
    refine lv_iload hx hb dX7_tryOrders_38 (lv_at hl 0 rfl) ?_
    refine lv_iadd hx hb dX7_tryOrders_40 ?_
    refine lv_topi (fun x_4045 ex_4045 => ?_)
    have hG := hG.trans (lt_eq ex_4045)
    refine va_put (D := (dC, dI)) (ci := 7) (v := .int x_4045) (ty := .int) (C := RX7) (T := TX7) (N := 48) hx hb hts inX7 tyX7 tyX7_ok nmX7 hown hK hP hD hS 0 rfl rfl 37 (by decide) (hts _ wd_1064) (fun _ h9 => h9) rfl (by decide +kernel) rfl rfl (Nat.le_of_ble_eq_true rfl) dX7_tryOrders_41 (fun H locs hP hD hS => ?_)
    obtain ⟨hP, hD⟩ := wl2 (ws' := [(oc7 oM iM_thrown rM_tape iM_taped iM_size iM_at iM_end iM_token iM_whole iM_nameSize iM_fault iM_place iM_trouble rM_letters iM_failed iM_hasCourt rM_r rM_fresh rM_told rM_read rM_st rM_undone rM_kept iM_undos iM_images rM_fresher iM_fresherSize iM_scale iM_night rM_heardRow rM_cutRow x_4039 x_4040 iM_allBreaths rM_trial rM_words iM_fewestBreaths x_4044 x_4045 iM_leastOrder rM_often iM_setMany iM_someOf iM_allOf iM_allWeight iM_enoughWeight iM_worthSum iM_firstRest iM_leastDrawn), (arI rM_r kM_r 287 fM_r), (arI rM_told kM_told 90 fM_told), (arI rM_st kM_st 90 fM_st), (arI rM_heardRow kM_heardRow 400 f_4041), (arI rM_cutRow kM_cutRow 800 f_4042), (arI rM_trial kM_trial 90 fM_trial)]) hP hD rfl
    refine lv_aload_n hx hb dX7_tryOrders_44 rfl (lv_at hl 1 rfl) ?_
    refine lv_iload hx hb dX7_tryOrders_45 (lv_at hl 0 rfl) ?_
    refine lv_aload_n hx hb dX7_tryOrders_47 rfl (lv_at hl 1 rfl) ?_
    refine va_get (D := (dC, dI)) (ci := 7) (v := .int iM_leastOrder) (C := RX7) (T := TX7) (N := 48) hx hb hts inX7 hown hK hP 0 rfl rfl 38 (by decide) (hts _ wd_1070) (fun _ h9 => h9) rfl dX7_tryOrders_48 ?_
    refine lv_icmp_ge (tgt := 59) hx hb dX7_tryOrders_51 (by decide) (fun c_4046 => ?_) (fun c_4046 => ?_)
    · skip
      have hG := hG.trans (if_pos c_4046)
      have gc_4046 := ti_le c_4046 rfl rfl
      refine lv_aload_n hx hb dX7_tryOrders_59 rfl (lv_at hl 1 rfl) ?_
      refine va_get (D := (dC, dI)) (ci := 7) (v := .int iM_leastOrder) (C := RX7) (T := TX7) (N := 48) hx hb hts inX7 hown hK hP 0 rfl rfl 38 (by decide) (hts _ wd_1070) (fun _ h9 => h9) rfl dX7_tryOrders_60 ?_
      refine va_put (D := (dC, dI)) (ci := 7) (v := .int iM_leastOrder) (ty := .int) (C := RX7) (T := TX7) (N := 48) hx hb hts inX7 tyX7 tyX7_ok nmX7 hown hK hP hD hS 0 rfl rfl 38 (by decide) (hts _ wd_1070) (fun _ h9 => h9) rfl (by decide +kernel) rfl rfl (Nat.le_of_ble_eq_true rfl) dX7_tryOrders_63 (fun H locs hP hD hS => ?_)
      obtain ⟨hP, hD⟩ := wl2 (ws' := [(oc7 oM iM_thrown rM_tape iM_taped iM_size iM_at iM_end iM_token iM_whole iM_nameSize iM_fault iM_place iM_trouble rM_letters iM_failed iM_hasCourt rM_r rM_fresh rM_told rM_read rM_st rM_undone rM_kept iM_undos iM_images rM_fresher iM_fresherSize iM_scale iM_night rM_heardRow rM_cutRow x_4039 x_4040 iM_allBreaths rM_trial rM_words iM_fewestBreaths x_4044 x_4045 iM_leastOrder rM_often iM_setMany iM_someOf iM_allOf iM_allWeight iM_enoughWeight iM_worthSum iM_firstRest iM_leastDrawn), (arI rM_r kM_r 287 fM_r), (arI rM_told kM_told 90 fM_told), (arI rM_st kM_st 90 fM_st), (arI rM_heardRow kM_heardRow 400 f_4041), (arI rM_cutRow kM_cutRow 800 f_4042), (arI rM_trial kM_trial 90 fM_trial)]) hP hD rfl
      exact wq_v hx hb hr 0 trivial (fun t ht hW => ⟨x_4039, x_4040, x_4044, x_4045, iM_leastOrder, f_4041, f_4042, fM_trial, b_x_4039, b_x_4040, ⟨(om_25096cef vx_4044), (om_1ad592d1 vx_4044)⟩, keep_refl, hG, Bw.to hP hD hK ht hW⟩) hS dX7_tryOrders_66 hlocks
    · skip
      have hG := hG.trans (if_neg c_4046)
      have gc_4046 := ti_nle c_4046 rfl rfl
      refine lv_iload hx hb dX7_tryOrders_54 (lv_at hl 0 rfl) ?_
      refine lv_goto (tgt := 63) hx hb dX7_tryOrders_56 (by decide) ?_
      refine va_put (D := (dC, dI)) (ci := 7) (v := .int x_4043) (ty := .int) (C := RX7) (T := TX7) (N := 48) hx hb hts inX7 tyX7 tyX7_ok nmX7 hown hK hP hD hS 0 rfl rfl 38 (by decide) (hts _ wd_1070) (fun _ h9 => h9) rfl (by decide +kernel) rfl rfl (Nat.le_of_ble_eq_true rfl) dX7_tryOrders_63 (fun H locs hP hD hS => ?_)
      obtain ⟨hP, hD⟩ := wl2 (ws' := [(oc7 oM iM_thrown rM_tape iM_taped iM_size iM_at iM_end iM_token iM_whole iM_nameSize iM_fault iM_place iM_trouble rM_letters iM_failed iM_hasCourt rM_r rM_fresh rM_told rM_read rM_st rM_undone rM_kept iM_undos iM_images rM_fresher iM_fresherSize iM_scale iM_night rM_heardRow rM_cutRow x_4039 x_4040 iM_allBreaths rM_trial rM_words iM_fewestBreaths x_4044 x_4045 x_4043 rM_often iM_setMany iM_someOf iM_allOf iM_allWeight iM_enoughWeight iM_worthSum iM_firstRest iM_leastDrawn), (arI rM_r kM_r 287 fM_r), (arI rM_told kM_told 90 fM_told), (arI rM_st kM_st 90 fM_st), (arI rM_heardRow kM_heardRow 400 f_4041), (arI rM_cutRow kM_cutRow 800 f_4042), (arI rM_trial kM_trial 90 fM_trial)]) hP hD rfl
      exact wq_v hx hb hr 0 trivial (fun t ht hW => ⟨x_4039, x_4040, x_4044, x_4045, x_4043, f_4041, f_4042, fM_trial, b_x_4039, b_x_4040, ⟨(om_25096cef vx_4044), (om_1ad592d1 vx_4044)⟩, keep_refl, hG, Bw.to hP hD hK ht hW⟩) hS dX7_tryOrders_66 hlocks
set_option maxHeartbeats 4000000 in
set_option maxRecDepth 100000 in
theorem tX7_try_1 (l : Launch) (dC : Nat → ClassId) (dI : Nat → Nat → Nat) (sz : Nat) (oM : Nat) (iM_thrown : Int32) (rM_tape : Nat) (iM_taped : Int32) (iM_size : Int32) (iM_at : Int32) (iM_end : Int32) (iM_token : Int32) (iM_whole : Int32) (iM_nameSize : Int32) (iM_fault : Int32) (iM_place : Int32) (iM_trouble : Int32) (rM_letters : Nat) (iM_failed : Int32) (iM_hasCourt : Int32) (rM_r : Nat) (fM_r : Nat → Int32) (kM_r : ClassId) (rM_fresh : Nat) (rM_told : Nat) (fM_told : Nat → Int32) (kM_told : ClassId) (rM_read : Nat) (rM_st : Nat) (fM_st : Nat → Int32) (kM_st : ClassId) (rM_undone : Nat) (rM_kept : Nat) (iM_undos : Int32) (iM_images : Int32) (rM_fresher : Nat) (iM_fresherSize : Int32) (iM_scale : Int32) (iM_night : Int32) (rM_heardRow : Nat) (fM_heardRow : Nat → Int32) (kM_heardRow : ClassId) (rM_cutRow : Nat) (fM_cutRow : Nat → Int32) (kM_cutRow : ClassId) (iM_breaths : Int32) (iM_cutMany : Int32) (iM_allBreaths : Int32) (rM_trial : Nat) (fM_trial : Nat → Int32) (kM_trial : ClassId) (rM_words : Nat) (iM_fewestBreaths : Int32) (iM_orderMany : Int32) (iM_orderSum : Int32) (iM_leastOrder : Int32) (rM_often : Nat) (iM_setMany : Int32) (iM_someOf : Int32) (iM_allOf : Int32) (iM_allWeight : Int64) (iM_enoughWeight : Int64) (iM_worthSum : Int64) (iM_firstRest : Int32) (iM_leastDrawn : Int32) (p0 : Int32) (p1 : Int32) (b_iM_taped : 0 ≤ iM_taped.toInt ∧ iM_taped.toInt ≤ 900) (b_iM_size : 0 ≤ iM_size.toInt ∧ iM_size.toInt ≤ 900) (b_iM_end : 0 ≤ iM_end.toInt ∧ iM_end.toInt ≤ 900) (b_iM_failed : 0 ≤ iM_failed.toInt ∧ iM_failed.toInt ≤ 1) (b_iM_hasCourt : 0 ≤ iM_hasCourt.toInt ∧ iM_hasCourt.toInt ≤ 1) (b_iM_undos : 0 ≤ iM_undos.toInt ∧ iM_undos.toInt ≤ 16) (b_iM_images : 0 ≤ iM_images.toInt ∧ iM_images.toInt ≤ 3) (b_iM_scale : 1 ≤ iM_scale.toInt ∧ iM_scale.toInt ≤ 1296) (b_iM_breaths : 0 ≤ iM_breaths.toInt ∧ iM_breaths.toInt ≤ 399) (b_iM_cutMany : 0 ≤ iM_cutMany.toInt ∧ iM_cutMany.toInt ≤ 399) (r_R : ROk fM_r) (r_C : iM_hasCourt.toInt ≤ 0 ∨ (1 ≤ (fM_r 1).toInt ∧ 0 ≤ (fM_r 6).toInt ∧ (fM_r 6).toInt < (fM_r 1).toInt)) (r_st : RowOk fM_r fM_st) (r_told : RowOk fM_r fM_told) (r_wst : WorOk fM_st) (hk0 : 0 ≤ p0.toInt ∧ p0.toInt < (fM_r 1).toInt) (hth : 0 ≤ (fM_r 6).toInt ∧ (fM_r 6).toInt < (fM_r 1).toInt) (him : 1 ≤ (fM_r (27 + p0.toNatClampNeg)).toInt) (hp1 : 0 ≤ p1.toInt ∧ p1.toInt ≤ 15) (hcn : cntP (bitN p1) (fM_r (27 + p0.toNatClampNeg)).toInt.toNat = 1) (htr : TryOk fM_r fM_st fM_trial p0.toNatClampNeg 1 p1) (hom : 0 ≤ iM_orderMany.toInt ∧ iM_orderMany.toInt ≤ 936) : Met l yX7_tryOrders (Cond.code yX7_tryOrders cX7_tryOrders 5 none :: wG) ({ frames := 25, cells := 0, slots := 0, locals := 696 }) (va_Pc [.ref oM, .int p0, .int 1, .int p1] (Pw dC dI sz [(oc7 oM iM_thrown rM_tape iM_taped iM_size iM_at iM_end iM_token iM_whole iM_nameSize iM_fault iM_place iM_trouble rM_letters iM_failed iM_hasCourt rM_r rM_fresh rM_told rM_read rM_st rM_undone rM_kept iM_undos iM_images rM_fresher iM_fresherSize iM_scale iM_night rM_heardRow rM_cutRow iM_breaths iM_cutMany iM_allBreaths rM_trial rM_words iM_fewestBreaths iM_orderMany iM_orderSum iM_leastOrder rM_often iM_setMany iM_someOf iM_allOf iM_allWeight iM_enoughWeight iM_worthSum iM_firstRest iM_leastDrawn), (arI rM_r kM_r 287 fM_r), (arI rM_told kM_told 90 fM_told), (arI rM_st kM_st 90 fM_st), (arI rM_heardRow kM_heardRow 400 fM_heardRow), (arI rM_cutRow kM_cutRow 800 fM_cutRow), (arI rM_trial kM_trial 90 fM_trial)] [(kM_r, .int), (kM_told, .int), (kM_st, .int), (kM_heardRow, .int), (kM_cutRow, .int), (kM_trial, .int)])) (va_Qv (fun (_ : Nat) => True) (fun (_ : Nat) (t : State) => ∃ (niM_breaths : Int32) (niM_cutMany : Int32) (niM_orderMany : Int32) (niM_orderSum : Int32) (niM_leastOrder : Int32) (nfM_heardRow : Nat → Int32) (nfM_cutRow : Nat → Int32) (nfM_trial : Nat → Int32), (0 ≤ niM_breaths.toInt ∧ niM_breaths.toInt ≤ 399) ∧ (0 ≤ niM_cutMany.toInt ∧ niM_cutMany.toInt ≤ 399) ∧ (iM_orderMany.toInt + 1 ≤ niM_orderMany.toInt ∧ niM_orderMany.toInt ≤ iM_orderMany.toInt + 64) ∧ (KeepI fM_trial p0.toNatClampNeg 1 nfM_trial) ∧ (PX7_try_1 fM_r fM_told fM_st iM_scale fM_heardRow fM_cutRow iM_breaths iM_cutMany fM_trial iM_orderMany iM_orderSum iM_leastOrder p0 p1 = (niM_breaths, niM_cutMany, niM_orderMany, niM_orderSum, niM_leastOrder, nfM_heardRow, nfM_cutRow, nfM_trial)) ∧ Bw dC dI (va_A [(oc7 oM iM_thrown rM_tape iM_taped iM_size iM_at iM_end iM_token iM_whole iM_nameSize iM_fault iM_place iM_trouble rM_letters iM_failed iM_hasCourt rM_r rM_fresh rM_told rM_read rM_st rM_undone rM_kept iM_undos iM_images rM_fresher iM_fresherSize iM_scale iM_night rM_heardRow rM_cutRow iM_breaths iM_cutMany iM_allBreaths rM_trial rM_words iM_fewestBreaths iM_orderMany iM_orderSum iM_leastOrder rM_often iM_setMany iM_someOf iM_allOf iM_allWeight iM_enoughWeight iM_worthSum iM_firstRest iM_leastDrawn), (arI rM_r kM_r 287 fM_r), (arI rM_told kM_told 90 fM_told), (arI rM_st kM_st 90 fM_st), (arI rM_heardRow kM_heardRow 400 fM_heardRow), (arI rM_cutRow kM_cutRow 800 fM_cutRow), (arI rM_trial kM_trial 90 fM_trial)] sz) [(oc7 oM iM_thrown rM_tape iM_taped iM_size iM_at iM_end iM_token iM_whole iM_nameSize iM_fault iM_place iM_trouble rM_letters iM_failed iM_hasCourt rM_r rM_fresh rM_told rM_read rM_st rM_undone rM_kept iM_undos iM_images rM_fresher iM_fresherSize iM_scale iM_night rM_heardRow rM_cutRow niM_breaths niM_cutMany iM_allBreaths rM_trial rM_words iM_fewestBreaths niM_orderMany niM_orderSum niM_leastOrder rM_often iM_setMany iM_someOf iM_allOf iM_allWeight iM_enoughWeight iM_worthSum iM_firstRest iM_leastDrawn), (arI rM_r kM_r 287 fM_r), (arI rM_told kM_told 90 fM_told), (arI rM_st kM_st 90 fM_st), (arI rM_heardRow kM_heardRow 400 nfM_heardRow), (arI rM_cutRow kM_cutRow 800 nfM_cutRow), (arI rM_trial kM_trial 90 nfM_trial)] [(kM_r, .int), (kM_told, .int), (kM_st, .int), (kM_heardRow, .int), (kM_cutRow, .int), (kM_trial, .int)] t) (va_A [(oc7 oM iM_thrown rM_tape iM_taped iM_size iM_at iM_end iM_token iM_whole iM_nameSize iM_fault iM_place iM_trouble rM_letters iM_failed iM_hasCourt rM_r rM_fresh rM_told rM_read rM_st rM_undone rM_kept iM_undos iM_images rM_fresher iM_fresherSize iM_scale iM_night rM_heardRow rM_cutRow iM_breaths iM_cutMany iM_allBreaths rM_trial rM_words iM_fewestBreaths iM_orderMany iM_orderSum iM_leastOrder rM_often iM_setMany iM_someOf iM_allOf iM_allWeight iM_enoughWeight iM_worthSum iM_firstRest iM_leastDrawn), (arI rM_r kM_r 287 fM_r), (arI rM_told kM_told 90 fM_told), (arI rM_st kM_st 90 fM_st), (arI rM_heardRow kM_heardRow 400 fM_heardRow), (arI rM_cutRow kM_cutRow 800 fM_cutRow), (arI rM_trial kM_trial 90 fM_trial)] sz)) 0 0 (va_A [(oc7 oM iM_thrown rM_tape iM_taped iM_size iM_at iM_end iM_token iM_whole iM_nameSize iM_fault iM_place iM_trouble rM_letters iM_failed iM_hasCourt rM_r rM_fresh rM_told rM_read rM_st rM_undone rM_kept iM_undos iM_images rM_fresher iM_fresherSize iM_scale iM_night rM_heardRow rM_cutRow iM_breaths iM_cutMany iM_allBreaths rM_trial rM_words iM_fewestBreaths iM_orderMany iM_orderSum iM_leastOrder rM_often iM_setMany iM_someOf iM_allOf iM_allWeight iM_enoughWeight iM_worthSum iM_firstRest iM_leastDrawn), (arI rM_r kM_r 287 fM_r), (arI rM_told kM_told 90 fM_told), (arI rM_st kM_st 90 fM_st), (arI rM_heardRow kM_heardRow 400 fM_heardRow), (arI rM_cutRow kM_cutRow 800 fM_cutRow), (arI rM_trial kM_trial 90 fM_trial)] sz) := by
  refine Met.ofW (cc := cX7_tryOrders) (maxL := 5) (ret := none) pnX7 rfl ?_
  intro p e s m args below meth c s₁ B hml hv
  obtain ⟨rfl, hsz, hP, hK, hD0, hE⟩ := hv
  have hx := B.exec
  have hb := B.bytes
  have hr := B.returns
  have hts : ∀ w ∈ wG, w.before ([.ref oM, .int p0, .int 1, .int p1] : List Value).toArray s = true := fun w h => atoms_spec (ws := Cond.code yX7_tryOrders cX7_tryOrders 5 none :: wG) B.pre w (List.mem_cons_of_mem _ h)
  have hown : s.vm.findClass RX7 = some m.cls := own_of B.named rfl
  have hlocks := B.notSynchronized
  subst hsz
  have hD := hD0.self (sz := s.heap.size)
  generalize hAe : va_A [(oc7 oM iM_thrown rM_tape iM_taped iM_size iM_at iM_end iM_token iM_whole iM_nameSize iM_fault iM_place iM_trouble rM_letters iM_failed iM_hasCourt rM_r rM_fresh rM_told rM_read rM_st rM_undone rM_kept iM_undos iM_images rM_fresher iM_fresherSize iM_scale iM_night rM_heardRow rM_cutRow iM_breaths iM_cutMany iM_allBreaths rM_trial rM_words iM_fewestBreaths iM_orderMany iM_orderSum iM_leastOrder rM_often iM_setMany iM_someOf iM_allOf iM_allWeight iM_enoughWeight iM_worthSum iM_firstRest iM_leastDrawn), (arI rM_r kM_r 287 fM_r), (arI rM_told kM_told 90 fM_told), (arI rM_st kM_st 90 fM_st), (arI rM_heardRow kM_heardRow 400 fM_heardRow), (arI rM_cutRow kM_cutRow 800 fM_cutRow), (arI rM_trial kM_trial 90 fM_trial)] s.heap.size = A at hD hE ⊢
  have hA : ∀ q : Nat, s.heap.size ≤ q → A q := fun q h => by rw [← hAe]; exact Or.inr h
  have hS : va_S A s.heap s.heap [] := va_S.rf
  have hl := lv_entry ([.ref oM, .int p0, .int 1, .int p1]) (n := 5) (Nat.le_of_ble_eq_true rfl)
  rw [lg_entry_eq]
  generalize (lg_sl ([.ref oM, .int p0, .int 1, .int p1]) ++ List.replicate (5 - (lg_sl ([.ref oM, .int p0, .int 1, .int p1])).length) Slot.unset).toArray = ls at hl ⊢
  have hl : lv_has ls 5 [(0, .ref oM), (1, .int p0), (2, .int 1), (3, .int p1)] := hl
  have hG := PX7_try_1_eq fM_r fM_told fM_st iM_scale fM_heardRow fM_cutRow iM_breaths iM_cutMany fM_trial iM_orderMany iM_orderSum iM_leastOrder p0 p1
  have s_slips := r_R.slips
  have s_nodes := r_R.nodes
  have s_uns := r_R.uns
  have q_p0 := ti_cl (x := p0) rfl hk0.1
  have mn_p0 := r_R.many (27 + p0.toNatClampNeg) (Nat.le_add_right _ _) (om_6c263690 (ti_cl (x := p0) rfl hk0.1) hk0.2 s_nodes.2)
  have kn_p0 := r_R.kind (9 + p0.toNatClampNeg) (Nat.le_add_right _ _) (om_57ce868b (ti_cl (x := p0) rfl hk0.1) hk0.2 s_nodes.2)
  have in_p0 := r_R.inner p0.toNatClampNeg (om_05d4ad0a (ti_cl (x := p0) rfl hk0.1) hk0.2)
  have rowt : ((1 : Nat) : Int) = (fM_r (27 + p0.toNatClampNeg)).toInt → RowOk fM_r fM_trial := fun h9 => TryOk.row r_R r_st htr (by omega) h9
  refine lv_iload_n hx hb dX7_tryOrders_0 rfl (lv_at hl 2 rfl) ?_
  refine lv_aload_n hx hb dX7_tryOrders_1 rfl (lv_at hl 0 rfl) ?_
  refine va_get (D := (dC, dI)) (ci := 7) (v := .ref rM_r) (C := RX7) (T := TX7) (N := 48) hx hb hts inX7 hown hK hP 0 rfl rfl 15 (by decide) (hts _ wd_155) (fun _ h9 => h9) rfl dX7_tryOrders_2 ?_
  refine lv_bipush (v := 27) hx hb dX7_tryOrders_5 (by decide) ?_
  refine lv_iload_n hx hb dX7_tryOrders_7 rfl (lv_at hl 1 rfl) ?_
  refine lv_iadd hx hb dX7_tryOrders_8 ?_
  refine lv_topi (fun x_4125 ex_4125 => ?_)
  have hG := hG.trans (lt_eq ex_4125)
  have vx_4125 : x_4125.toInt = p0.toInt + 27 := om_6c48219a (ti_add ex_4125 kc_27 rfl (om_edd3f7cf hk0.1) (om_cf6669ce hk0.2 s_nodes.2))
  refine va_iald hx hb hK hP 1 0 rfl rfl (ti_in vx_4125 (om_b4b48b7f hk0.1) (om_420abfc6 hk0.2 s_nodes.2)) dX7_tryOrders_9 ?_
  refine lv_topi (fun x_4126 ex_4126 => ?_)
  have hG := hG.trans (lt_eq ex_4126)
  have kx_4126 : (fM_r x_4125.toNatClampNeg).toInt = x_4126.toInt := by rw [ex_4126]
  have cx_4126 : (fM_r (27 + p0.toNatClampNeg)).toInt = x_4126.toInt := by rw [show 27 + p0.toNatClampNeg = x_4125.toNatClampNeg from (om_779a3124 (ti_cl (x := p0) rfl hk0.1) (ti_cl (x := x_4125) vx_4125 (om_b4b48b7f hk0.1)))]; exact kx_4126
  have sx_4126 := r_R.many x_4125.toNatClampNeg (om_ab5399c3 (ti_cl (x := x_4125) vx_4125 (om_b4b48b7f hk0.1)) hk0.1) (om_3b68d876 (ti_cl (x := x_4125) vx_4125 (om_b4b48b7f hk0.1)) hk0.2 s_nodes.2)
  refine lv_icmp_ne (tgt := 67) hx hb dX7_tryOrders_10 (by decide) (fun c_4127 => ?_) (fun c_4127 => ?_)
  · skip
    have hG := hG.trans (if_neg c_4127)
    have gc_4127 := ti_ne c_4127 kc_1 rfl
    refine lv_iconst (v := 0) hx hb dX7_tryOrders_67 (by decide) ?_
    refine lv_istore (lv' := [(4, .int 0), (0, .ref oM), (1, .int p0), (2, .int 1), (3, .int p1)]) hx hb dX7_tryOrders_68 hl (by decide) rfl (fun ls hl => ?_)
    have hl := lv_sub hl (l' := [(4, .int 0), (0, .ref oM), (1, .int p0), (2, .int 1), (3, .int p1)]) [0, 1, 2, 3, 4] rfl
    have key_n_4137 : ∀ (n_4137 : Nat) (z_4128 : Int32) (z_4129 : Int32) (z_4130 : Int32) (z_4131 : Int32) (z_4132 : Int32) (z_4133 : Int32) (f_4134 : Nat → Int32) (f_4135 : Nat → Int32) (f_4136 : Nat → Int32) (H : Heap) (locs : List Loc) (ls : Array Slot), (0 ≤ z_4130.toInt ∧ z_4130.toInt ≤ 399) → (0 ≤ z_4131.toInt ∧ z_4131.toInt ≤ 399) → (0 ≤ z_4128.toInt ∧ z_4128.toInt ≤ (fM_r (27 + p0.toNatClampNeg)).toInt) → (KeepI fM_trial p0.toNatClampNeg 1 f_4134) → (iM_orderMany.toInt ≤ z_4129.toInt ∧ z_4129.toInt ≤ iM_orderMany.toInt + 16 * z_4128.toInt) → (iM_orderMany.toInt + 1 ≤ z_4129.toInt ∨ ∀ q : Nat, (q : Int) < z_4128.toInt → bitN p1 q) → ((fM_r (27 + p0.toNatClampNeg)).toInt - z_4128.toInt).toNat < n_4137 → (PX7_try_1 fM_r fM_told fM_st iM_scale fM_heardRow fM_cutRow iM_breaths iM_cutMany fM_trial iM_orderMany iM_orderSum iM_leastOrder p0 p1 = HX7_try_1_0 fM_r fM_told fM_st iM_scale p0 p1 n_4137 z_4128 z_4129 z_4130 z_4131 z_4132 z_4133 f_4134 f_4135 f_4136) → va_P (dC, dI) vwCl [(oc7 oM iM_thrown rM_tape iM_taped iM_size iM_at iM_end iM_token iM_whole iM_nameSize iM_fault iM_place iM_trouble rM_letters iM_failed iM_hasCourt rM_r rM_fresh rM_told rM_read rM_st rM_undone rM_kept iM_undos iM_images rM_fresher iM_fresherSize iM_scale iM_night rM_heardRow rM_cutRow z_4130 z_4131 iM_allBreaths rM_trial rM_words iM_fewestBreaths z_4129 z_4132 z_4133 rM_often iM_setMany iM_someOf iM_allOf iM_allWeight iM_enoughWeight iM_worthSum iM_firstRest iM_leastDrawn), (arI rM_r kM_r 287 fM_r), (arI rM_told kM_told 90 fM_told), (arI rM_st kM_st 90 fM_st), (arI rM_heardRow kM_heardRow 400 f_4135), (arI rM_cutRow kM_cutRow 800 f_4136), (arI rM_trial kM_trial 90 f_4134)] H → va_D A [(oc7 oM iM_thrown rM_tape iM_taped iM_size iM_at iM_end iM_token iM_whole iM_nameSize iM_fault iM_place iM_trouble rM_letters iM_failed iM_hasCourt rM_r rM_fresh rM_told rM_read rM_st rM_undone rM_kept iM_undos iM_images rM_fresher iM_fresherSize iM_scale iM_night rM_heardRow rM_cutRow z_4130 z_4131 iM_allBreaths rM_trial rM_words iM_fewestBreaths z_4129 z_4132 z_4133 rM_often iM_setMany iM_someOf iM_allOf iM_allWeight iM_enoughWeight iM_worthSum iM_firstRest iM_leastDrawn), (arI rM_r kM_r 287 fM_r), (arI rM_told kM_told 90 fM_told), (arI rM_st kM_st 90 fM_st), (arI rM_heardRow kM_heardRow 400 f_4135), (arI rM_cutRow kM_cutRow 800 f_4136), (arI rM_trial kM_trial 90 f_4134)] → va_S A s.heap H locs → lv_has ls 5 [(4, .int z_4128), (0, .ref oM), (1, .int p0), (2, .int 1), (3, .int p1)] → W p l e (headSpec (Cond.code yX7_tryOrders cX7_tryOrders 5 none :: wG) ({ frames := 25, cells := 0, slots := 0, locals := 696 })).room s m ([.ref oM, .int p0, .int 1, .int p1] : List Value).toArray below meth c H locs 0 0 (MQ below (va_Qv (fun (_ : Nat) => True) (fun (_ : Nat) (t : State) => ∃ (niM_breaths : Int32) (niM_cutMany : Int32) (niM_orderMany : Int32) (niM_orderSum : Int32) (niM_leastOrder : Int32) (nfM_heardRow : Nat → Int32) (nfM_cutRow : Nat → Int32) (nfM_trial : Nat → Int32), (0 ≤ niM_breaths.toInt ∧ niM_breaths.toInt ≤ 399) ∧ (0 ≤ niM_cutMany.toInt ∧ niM_cutMany.toInt ≤ 399) ∧ (iM_orderMany.toInt + 1 ≤ niM_orderMany.toInt ∧ niM_orderMany.toInt ≤ iM_orderMany.toInt + 64) ∧ (KeepI fM_trial p0.toNatClampNeg 1 nfM_trial) ∧ (PX7_try_1 fM_r fM_told fM_st iM_scale fM_heardRow fM_cutRow iM_breaths iM_cutMany fM_trial iM_orderMany iM_orderSum iM_leastOrder p0 p1 = (niM_breaths, niM_cutMany, niM_orderMany, niM_orderSum, niM_leastOrder, nfM_heardRow, nfM_cutRow, nfM_trial)) ∧ Bw dC dI A [(oc7 oM iM_thrown rM_tape iM_taped iM_size iM_at iM_end iM_token iM_whole iM_nameSize iM_fault iM_place iM_trouble rM_letters iM_failed iM_hasCourt rM_r rM_fresh rM_told rM_read rM_st rM_undone rM_kept iM_undos iM_images rM_fresher iM_fresherSize iM_scale iM_night rM_heardRow rM_cutRow niM_breaths niM_cutMany iM_allBreaths rM_trial rM_words iM_fewestBreaths niM_orderMany niM_orderSum niM_leastOrder rM_often iM_setMany iM_someOf iM_allOf iM_allWeight iM_enoughWeight iM_worthSum iM_firstRest iM_leastDrawn), (arI rM_r kM_r 287 fM_r), (arI rM_told kM_told 90 fM_told), (arI rM_st kM_st 90 fM_st), (arI rM_heardRow kM_heardRow 400 nfM_heardRow), (arI rM_cutRow kM_cutRow 800 nfM_cutRow), (arI rM_trial kM_trial 90 nfM_trial)] [(kM_r, .int), (kM_told, .int), (kM_st, .int), (kM_heardRow, .int), (kM_cutRow, .int), (kM_trial, .int)] t) A) ([.ref oM, .int p0, .int 1, .int p1] : List Value).toArray s 0 0 A) (F0 m 70 ls []) := by
      intro n_4137
      induction n_4137 with
      | zero => intro z_4128 z_4129 z_4130 z_4131 z_4132 z_4133 f_4134 f_4135 f_4136 H locs ls b_z_4130 b_z_4131 hi0_n_4137 hi1_n_4137 hi2_n_4137 hi3_n_4137 hm; exact absurd hm (Nat.not_lt_zero _)
      | succ n_4137 ih_n_4137 =>
        intro z_4128 z_4129 z_4130 z_4131 z_4132 z_4133 f_4134 f_4135 f_4136 H locs ls b_z_4130 b_z_4131 hi0_n_4137 hi1_n_4137 hi2_n_4137 hi3_n_4137 hm_n_4137 hG hP hD hS hl
        have hG := hG.trans (HX7_try_1_0_eq _ _ _ _ _ _ _ _ _ _ _ _ _ _ _ _)
        refine lv_iload hx hb dX7_tryOrders_70 (lv_at hl 0 rfl) ?_
        refine lv_aload_n hx hb dX7_tryOrders_72 rfl (lv_at hl 1 rfl) ?_
        refine va_get (D := (dC, dI)) (ci := 7) (v := .ref rM_r) (C := RX7) (T := TX7) (N := 48) hx hb hts inX7 hown hK hP 0 rfl rfl 15 (by decide) (hts _ wd_155) (fun _ h9 => h9) rfl dX7_tryOrders_73 ?_
        refine lv_bipush (v := 27) hx hb dX7_tryOrders_76 (by decide) ?_
        refine lv_iload_n hx hb dX7_tryOrders_78 rfl (lv_at hl 2 rfl) ?_
        refine lv_iadd hx hb dX7_tryOrders_79 ?_
        refine lv_topi (fun x_4138 ex_4138 => ?_)
        have hG := hG.trans (lt_eq ex_4138)
        have vx_4138 : x_4138.toInt = p0.toInt + 27 := om_6c48219a (ti_add ex_4138 kc_27 rfl (om_edd3f7cf hk0.1) (om_cf6669ce hk0.2 s_nodes.2))
        refine va_iald hx hb hK hP 1 0 rfl rfl (ti_in vx_4138 (om_b4b48b7f hk0.1) (om_420abfc6 hk0.2 s_nodes.2)) dX7_tryOrders_80 ?_
        refine lv_topi (fun x_4139 ex_4139 => ?_)
        have hG := hG.trans (lt_eq ex_4139)
        have kx_4139 : (fM_r x_4138.toNatClampNeg).toInt = x_4139.toInt := by rw [ex_4139]
        have cx_4139 : (fM_r (27 + p0.toNatClampNeg)).toInt = x_4139.toInt := by rw [show 27 + p0.toNatClampNeg = x_4138.toNatClampNeg from (om_779a3124 (ti_cl (x := p0) rfl hk0.1) (ti_cl (x := x_4138) vx_4138 (om_b4b48b7f hk0.1)))]; exact kx_4139
        have sx_4139 := r_R.many x_4138.toNatClampNeg (om_ab5399c3 (ti_cl (x := x_4138) vx_4138 (om_b4b48b7f hk0.1)) hk0.1) (om_3b68d876 (ti_cl (x := x_4138) vx_4138 (om_b4b48b7f hk0.1)) hk0.2 s_nodes.2)
        refine lv_icmp_ge (tgt := 137) hx hb dX7_tryOrders_81 (by decide) (fun c_4140 => ?_) (fun c_4140 => ?_)
        · skip
          have hG := hG.trans (if_pos c_4140)
          have gc_4140 := ti_le c_4140 rfl rfl
          exact wq_v hx hb hr 0 trivial (fun t ht hW => ⟨z_4130, z_4131, z_4129, z_4132, z_4133, f_4135, f_4136, f_4134, b_z_4130, b_z_4131, (by rcases hi3_n_4137 with h9 | h9; omega; exact absurd (cnt_full (P := bitN p1) (fM_r (27 + p0.toNatClampNeg)).toInt.toNat (fun q hq => h9 q (by omega))) (by rw [hcn]; omega)), (by assumption), hG, Bw.to hP hD hK ht hW⟩) hS dX7_tryOrders_137 hlocks
        · skip
          have hG := hG.trans (if_neg c_4140)
          have gc_4140 := ti_nle c_4140 rfl rfl
          refine lv_iload_n hx hb dX7_tryOrders_84 rfl (lv_at hl 4 rfl) ?_
          refine lv_iload hx hb dX7_tryOrders_85 (lv_at hl 0 rfl) ?_
          have hFc : ∀ q, va_A [] _ q → A q := fun q h => hA q (Nat.le_trans hS.1 (va_nilA h))
          refine va_calli (va_runS (As := [.int p1, .int z_4128]) (rest := []) ⟨hx, hb, hml, hown, hts⟩ (tX7_hasBit l dC dI _ p1 z_4128 ) (va_cwS 2 hts (wd_S wd_968 wd_969 wd_5 (wd_c wd_970)) rfl rfl rfl ds_yX7_hasBit_2 ⟨Nat.le_of_ble_eq_true rfl, Nat.le_of_ble_eq_true rfl⟩) ⟨Pw.fb, fun U hU hW => Pn.to hK hE hS hA hU hW⟩ rfl rfl hl.1 rfl (lv_room (Nat.le_of_ble_eq_true rfl)) dX7_tryOrders_87 ⟨Nat.le_of_ble_eq_true rfl, Nat.le_of_ble_eq_true rfl⟩) hS (fun q _ h => hFc q h) hFc (fun r u t H locs ht hvm hw hB hz1 hk1 hS => ?_)
          obtain ⟨hP, hD, hK⟩ := Bw.same ht hvm hP hD hK hk1 hFc
          clear hz1 hk1 hvm ht hB
          have hq9 := hw.2
          have hw := hw.1
          obtain ⟨x_4141, rfl⟩ : ∃ z, z = r := ⟨_, rfl⟩
          have hq_x_4141 := hq9
          have hG := hG.trans (lt_eq hq_x_4141.symm)
          have bx_4141 := hw.1
          have dx_4141 := bz_tb bx_4141
          have px_4141 := hw.2
          rcases px_4141 with ⟨gx_4141, hx_4141⟩ | ⟨gx_4141, hx_4141⟩
          · skip
            have g9x_4141 : x_4141.toInt = 1 := by rw [gx_4141]; exact kc_1
            have hb9 : bitN p1 z_4128.toNatClampNeg := (tb_bit (by omega) (by omega)).mp hx_4141
            refine lv_if_eq (tgt := 96) hx hb dX7_tryOrders_90 (by decide) (fun c_4142 => ?_) (fun c_4142 => ?_)
            · skip
              have hG := hG.trans (if_pos c_4142)
              have gc_4142 := ti_eq c_4142 rfl kc_0
              exfalso; clear hG; omega
            · skip
              have hG := hG.trans (if_neg c_4142)
              have gc_4142 := ti_ne c_4142 rfl kc_0
              refine lv_goto (tgt := 131) hx hb dX7_tryOrders_93 (by decide) ?_
              obtain ⟨x_4143, ex_4143⟩ : ∃ z : Int32, z = z_4128 + Int32.ofInt 1 := ⟨_, rfl⟩
              have hG := hG.trans (lt_eq ex_4143)
              have vx_4143 : x_4143.toInt = z_4128.toInt + 1 := ti_add (y := 1) ex_4143 rfl kc_1 (om_4e4fce7e hi0_n_4137.1) (om_d6392c09 mn_p0.2 hi0_n_4137.2)
              refine lv_iinc (v := x_4143) (lv' := [(4, .int x_4143), (0, .ref oM), (1, .int p0), (2, .int 1), (3, .int p1)]) hx hb dX7_tryOrders_131 hl (k := 0) rfl ex_4143.symm (by decide) rfl (fun ls hl => ?_)
              refine lv_goto (tgt := 70) hx hb dX7_tryOrders_134 (by decide) ?_
              exact ih_n_4137 x_4143 z_4129 z_4130 z_4131 z_4132 z_4133 f_4134 f_4135 f_4136 _ _ _ b_z_4130 b_z_4131 ⟨(om_83b90de5 hi0_n_4137.1 vx_4143), (om_1ad1f819 cx_4139 gc_4140 vx_4143)⟩ (by first | assumption | omega | decide) ⟨hi2_n_4137.1, (om_b3a00678 hi2_n_4137.2 vx_4143)⟩ (by rcases hi3_n_4137 with h9 | h9; exact Or.inl (by omega); exact Or.inr (fun q hq => by by_cases e9 : q = z_4128.toNatClampNeg; (rw [e9]; exact hb9); exact h9 q (by have q1 := ti_cl (x := z_4128) rfl hi0_n_4137.1; omega))) (ms_lt hm_n_4137 (om_dd4ae0bc vx_4143) (om_6d498008 cx_4139 gc_4140)) hG hP hD hS (lv_sub hl [0, 1, 2, 3, 4] rfl)
          · skip
            have g9x_4141 : x_4141.toInt = 0 := by rw [gx_4141]; exact kc_0
            have hb9 : ¬ bitN p1 z_4128.toNatClampNeg := fun z9 => hx_4141 ((tb_bit (by omega) (by omega)).mpr z9)
            refine lv_if_eq (tgt := 96) hx hb dX7_tryOrders_90 (by decide) (fun c_4144 => ?_) (fun c_4144 => ?_)
            · skip
              have hG := hG.trans (if_pos c_4144)
              have gc_4144 := ti_eq c_4144 rfl kc_0
              refine lv_aload_n hx hb dX7_tryOrders_96 rfl (lv_at hl 1 rfl) ?_
              refine va_get (D := (dC, dI)) (ci := 7) (v := .ref rM_trial) (C := RX7) (T := TX7) (N := 48) hx hb hts inX7 hown hK hP 0 rfl rfl 33 (by decide) (hts _ wd_167) (fun _ h9 => h9) rfl dX7_tryOrders_97 ?_
              refine lv_iconst (v := 4) hx hb dX7_tryOrders_100 (by decide) ?_
              refine lv_iload_n hx hb dX7_tryOrders_101 rfl (lv_at hl 2 rfl) ?_
              refine lv_imul hx hb dX7_tryOrders_102 ?_
              refine lv_topi (fun x_4145 ex_4145 => ?_)
              have hG := hG.trans (lt_eq ex_4145)
              have vx_4145 : x_4145.toInt = 4 * p0.toInt := ti_mul ex_4145 kc_4 rfl (om_56b74365 hk0.1) (om_eac0354e hk0.2 s_nodes.2)
              refine lv_iload_n hx hb dX7_tryOrders_103 rfl (lv_at hl 3 rfl) ?_
              refine lv_iadd hx hb dX7_tryOrders_104 ?_
              refine lv_topi (fun x_4146 ex_4146 => ?_)
              have hG := hG.trans (lt_eq ex_4146)
              have vx_4146 : x_4146.toInt = 4 * p0.toInt + 1 := om_82688908 (ti_add ex_4146 vx_4145 kc_1 (om_23b2582f hk0.1) (om_49fe2b1f hk0.2 s_nodes.2))
              refine lv_aload_n hx hb dX7_tryOrders_105 rfl (lv_at hl 1 rfl) ?_
              refine va_get (D := (dC, dI)) (ci := 7) (v := .ref rM_st) (C := RX7) (T := TX7) (N := 48) hx hb hts inX7 hown hK hP 0 rfl rfl 19 (by decide) (hts _ wd_159) (fun _ h9 => h9) rfl dX7_tryOrders_106 ?_
              refine lv_iconst (v := 4) hx hb dX7_tryOrders_109 (by decide) ?_
              refine lv_iload_n hx hb dX7_tryOrders_110 rfl (lv_at hl 2 rfl) ?_
              refine lv_imul hx hb dX7_tryOrders_111 ?_
              refine lv_topi (fun x_4147 ex_4147 => ?_)
              have hG := hG.trans (lt_eq ex_4147)
              have vx_4147 : x_4147.toInt = 4 * p0.toInt := ti_mul ex_4147 kc_4 rfl (om_56b74365 hk0.1) (om_eac0354e hk0.2 s_nodes.2)
              refine lv_iload hx hb dX7_tryOrders_112 (lv_at hl 0 rfl) ?_
              refine lv_iadd hx hb dX7_tryOrders_114 ?_
              refine lv_topi (fun x_4148 ex_4148 => ?_)
              have hG := hG.trans (lt_eq ex_4148)
              have vx_4148 : x_4148.toInt = 4 * p0.toInt + z_4128.toInt := om_5d0caf0f (ti_add ex_4148 vx_4147 rfl (om_056a216f hk0.1 hi0_n_4137.1) (om_da12a7f8 hk0.2 s_nodes.2 mn_p0.2 hi0_n_4137.2))
              refine va_iald hx hb hK hP 3 2 rfl rfl (ti_in vx_4148 (om_fc2812d4 hk0.1 hi0_n_4137.1) (om_01db022b hk0.2 s_nodes.2 mn_p0.2 hi0_n_4137.2)) dX7_tryOrders_115 ?_
              refine lv_topi (fun x_4149 ex_4149 => ?_)
              have hG := hG.trans (lt_eq ex_4149)
              have kx_4149 : (fM_st x_4148.toNatClampNeg).toInt = x_4149.toInt := by rw [ex_4149]
              have cx_4149 : (fM_st (4 * p0.toNatClampNeg + z_4128.toNatClampNeg)).toInt = x_4149.toInt := by rw [show 4 * p0.toNatClampNeg + z_4128.toNatClampNeg = x_4148.toNatClampNeg from (om_4de36627 (ti_cl (x := p0) rfl hk0.1) (ti_cl (x := z_4128) rfl hi0_n_4137.1) (ti_cl (x := x_4148) vx_4148 (om_fc2812d4 hk0.1 hi0_n_4137.1)))]; exact kx_4149
              have wx_4149 : 0 ≤ x_4149.toInt ∧ x_4149.toInt < p0.toInt := row_lt r_st (i := z_4128.toNatClampNeg) (ti_cl (x := p0) rfl hk0.1) (ti_cl (x := z_4128) rfl hi0_n_4137.1) hk0.2 (om_644b432c cx_4139 gc_4140) (om_24300f0a (ti_cl (x := p0) rfl hk0.1) (ti_cl (x := z_4128) rfl hi0_n_4137.1)) cx_4149
              refine va_iast hx hb hK hP hD hS 6 5 rfl rfl (ti_in vx_4146 (om_8d9bee11 hk0.1) (om_343060c7 hk0.2 s_nodes.2)) dX7_tryOrders_116 (fun H locs hP hD hS => ?_)
              obtain ⟨f_4150, ef_4150⟩ : ∃ g : Nat → Int32, g = upd f_4134 x_4146.toNatClampNeg x_4149 := ⟨_, rfl⟩
              rw [← ef_4150] at hP hD
              have hG := hG.trans (lt_eq ef_4150)
              obtain ⟨hP, hD⟩ := wl2 (ws' := [(oc7 oM iM_thrown rM_tape iM_taped iM_size iM_at iM_end iM_token iM_whole iM_nameSize iM_fault iM_place iM_trouble rM_letters iM_failed iM_hasCourt rM_r rM_fresh rM_told rM_read rM_st rM_undone rM_kept iM_undos iM_images rM_fresher iM_fresherSize iM_scale iM_night rM_heardRow rM_cutRow z_4130 z_4131 iM_allBreaths rM_trial rM_words iM_fewestBreaths z_4129 z_4132 z_4133 rM_often iM_setMany iM_someOf iM_allOf iM_allWeight iM_enoughWeight iM_worthSum iM_firstRest iM_leastDrawn), (arI rM_r kM_r 287 fM_r), (arI rM_told kM_told 90 fM_told), (arI rM_st kM_st 90 fM_st), (arI rM_heardRow kM_heardRow 400 f_4135), (arI rM_cutRow kM_cutRow 800 f_4136), (arI rM_trial kM_trial 90 f_4150)]) hP hD rfl
              refine lv_aload_n hx hb dX7_tryOrders_117 rfl (lv_at hl 1 rfl) ?_
              refine lv_iload_n hx hb dX7_tryOrders_118 rfl (lv_at hl 2 rfl) ?_
              refine lv_iload_n hx hb dX7_tryOrders_119 rfl (lv_at hl 3 rfl) ?_
              refine lv_iconst (v := 1) hx hb dX7_tryOrders_120 (by decide) ?_
              refine lv_iadd hx hb dX7_tryOrders_121 ?_
              refine lv_topi (fun x_4151 ex_4151 => ?_)
              obtain rfl : x_4151 = 2 := ex_4151.trans (by decide)
              refine lv_iload_n hx hb dX7_tryOrders_122 rfl (lv_at hl 4 rfl) ?_
              refine lv_iconst (v := 1) hx hb dX7_tryOrders_123 (by decide) ?_
              refine lv_iload hx hb dX7_tryOrders_124 (lv_at hl 0 rfl) ?_
              refine lv_ishl hx hb dX7_tryOrders_126 ?_
              refine lv_topi (fun x_4152 ex_4152 => ?_)
              have hG := hG.trans (lt_eq ex_4152)
              have qx_4152 := ti_shl ex_4152 rfl (by omega) (by omega)
              refine lv_ior hx hb dX7_tryOrders_127 ?_
              refine lv_topi (fun x_4153 ex_4153 => ?_)
              have hG := hG.trans (lt_eq ex_4153)
              have q_P := ti_cl (x := z_4128) rfl hi0_n_4137.1
              have ob9 := or_bit (u := p1) (p := z_4128) (v := x_4153) (x := x_4152) (by omega) (by omega) ex_4152 ex_4153
              have ob8 := ob9.1
              have cn9 : cntP (bitN x_4153) (fM_r (27 + p0.toNatClampNeg)).toInt.toNat = 2 := by rw [cnt_more (P := bitN p1) (p := z_4128.toNatClampNeg) (fM_r (27 + p0.toNatClampNeg)).toInt.toNat (by omega) hb9 (fun q hq => ob9.2 q (by omega)), hcn]
              have hq9 : x_4146.toNatClampNeg = 4 * p0.toNatClampNeg + 1 := by have q1 := ti_cl (x := x_4146) vx_4146 (om_8d9bee11 hk0.1); have q2 := ti_cl (x := p0) rfl hk0.1; omega
              have tr9 : TryOk fM_r fM_st f_4150 p0.toNatClampNeg 2 x_4153 := try_step (p := z_4128.toNatClampNeg) r_R r_st (by omega) htr hi1_n_4137 ef_4150 hq9 (by have q := cx_4149; omega) (by omega) (by decide) hb9 ob9.2
              have hFc := va_freeI hD hS hA
              refine va_callv (va_runV (As := [.int p0, .int 2, .int x_4153]) (rest := []) ⟨hx, hb, hml, hown, hts⟩ (tX7_try_2 l dC dI _ oM iM_thrown rM_tape iM_taped iM_size iM_at iM_end iM_token iM_whole iM_nameSize iM_fault iM_place iM_trouble rM_letters iM_failed iM_hasCourt rM_r fM_r kM_r rM_fresh rM_told fM_told kM_told rM_read rM_st fM_st kM_st rM_undone rM_kept iM_undos iM_images rM_fresher iM_fresherSize iM_scale iM_night rM_heardRow f_4135 kM_heardRow rM_cutRow f_4136 kM_cutRow z_4130 z_4131 iM_allBreaths rM_trial f_4150 kM_trial rM_words iM_fewestBreaths z_4129 z_4132 z_4133 rM_often iM_setMany iM_someOf iM_allOf iM_allWeight iM_enoughWeight iM_worthSum iM_firstRest iM_leastDrawn p0 x_4153 b_iM_taped b_iM_size b_iM_end b_iM_failed b_iM_hasCourt b_iM_undos b_iM_images b_iM_scale b_z_4130 b_z_4131 (by assumption) (by assumption) (by assumption) (by assumption) (by assumption) ⟨hk0.1, hk0.2⟩ ⟨hth.1, hth.2⟩ (by first | assumption | (have q0 := kc_0; have q1 := kc_1; have q2 := kc_2; first | exact ⟨by omega, by omega⟩ | omega) | decide | (intro h; exact absurd h (by decide))) (by first | assumption | (have q0 := kc_0; have q1 := kc_1; have q2 := kc_2; first | exact ⟨by omega, by omega⟩ | omega) | decide | (intro h; exact absurd h (by decide))) (by first | assumption | (have q0 := kc_0; have q1 := kc_1; have q2 := kc_2; first | exact ⟨by omega, by omega⟩ | omega) | decide | (intro h; exact absurd h (by decide))) (by first | assumption | (have q0 := kc_0; have q1 := kc_1; have q2 := kc_2; first | exact ⟨by omega, by omega⟩ | omega) | decide | (intro h; exact absurd h (by decide))) ⟨(om_11cc87cb hom.1 hi2_n_4137.1), (om_d18b882c hom.2 mn_p0.2 hi2_n_4137.2 cx_4139 gc_4140)⟩) (cwV 3 hts (wd_V wd_1071 wd_1072 wd_1073 wd_5 (wd_c wd_1074)) rfl rfl rfl (by decide +kernel) ⟨Nat.le_of_ble_eq_true rfl, Nat.le_of_ble_eq_true rfl⟩) ⟨Pw.fb, recvX7 hK hP (q0 := 0) rfl, fun U hU hW => Pw.to hP hD hK hE hS hFc hU hW⟩ rfl rfl hl.1 rfl (lv_room (Nat.le_of_ble_eq_true rfl)) dX7_tryOrders_128 ⟨Nat.le_of_ble_eq_true rfl, Nat.le_of_ble_eq_true rfl⟩) hS (fun q _ h => hFc q h) hFc (fun u t H locs ht hvm hw hB hz1 hk1 hS => ?_)
              refine ex_8_5 hB (fun x_4154 x_4155 x_4156 x_4157 x_4158 f_4159 f_4160 f_4161 b_x_4154 b_x_4155 e_x_4154_0 e_x_4154_1 e_x_4154_2 hB => ?_)
              obtain ⟨hP, hD⟩ := Bw.goA (ws' := [(oc7 oM iM_thrown rM_tape iM_taped iM_size iM_at iM_end iM_token iM_whole iM_nameSize iM_fault iM_place iM_trouble rM_letters iM_failed iM_hasCourt rM_r rM_fresh rM_told rM_read rM_st rM_undone rM_kept iM_undos iM_images rM_fresher iM_fresherSize iM_scale iM_night rM_heardRow rM_cutRow x_4154 x_4155 iM_allBreaths rM_trial rM_words iM_fewestBreaths x_4156 x_4157 x_4158 rM_often iM_setMany iM_someOf iM_allOf iM_allWeight iM_enoughWeight iM_worthSum iM_firstRest iM_leastDrawn), (arI rM_r kM_r 287 fM_r), (arI rM_told kM_told 90 fM_told), (arI rM_st kM_st 90 fM_st), (arI rM_heardRow kM_heardRow 400 f_4159), (arI rM_cutRow kM_cutRow 800 f_4160), (arI rM_trial kM_trial 90 f_4161)]) hB rfl ht hFc rfl
              clear hz1 hk1 hvm ht hB
              have kp9 : KeepI fM_trial p0.toNatClampNeg 1 f_4161 := keep_step hi1_n_4137 ef_4150 hq9 (by decide) (i' := 2) e_x_4154_1 rfl
              have hG := hG.trans (un8_eq e_x_4154_2)
              obtain ⟨x_4162, ex_4162⟩ : ∃ z : Int32, z = z_4128 + Int32.ofInt 1 := ⟨_, rfl⟩
              have hG := hG.trans (lt_eq ex_4162)
              have vx_4162 : x_4162.toInt = z_4128.toInt + 1 := ti_add (y := 1) ex_4162 rfl kc_1 (om_4e4fce7e hi0_n_4137.1) (om_d6392c09 mn_p0.2 hi0_n_4137.2)
              refine lv_iinc (v := x_4162) (lv' := [(4, .int x_4162), (0, .ref oM), (1, .int p0), (2, .int 1), (3, .int p1)]) hx hb dX7_tryOrders_131 hl (k := 0) rfl ex_4162.symm (by decide) rfl (fun ls hl => ?_)
              refine lv_goto (tgt := 70) hx hb dX7_tryOrders_134 (by decide) ?_
              exact ih_n_4137 x_4162 x_4156 x_4154 x_4155 x_4157 x_4158 f_4161 f_4159 f_4160 _ _ _ b_x_4154 b_x_4155 ⟨(om_83b90de5 hi0_n_4137.1 vx_4162), (om_1ad1f819 cx_4139 gc_4140 vx_4162)⟩ kp9 ⟨(om_a2451a67 hi2_n_4137.1 e_x_4154_0.1), (om_96f0585e hi2_n_4137.2 e_x_4154_0.2 vx_4162)⟩ (Or.inl (by omega)) (ms_lt hm_n_4137 (om_dd4ae0bc vx_4162) (om_6d498008 cx_4139 gc_4140)) hG hP hD hS (lv_sub hl [0, 1, 2, 3, 4] rfl)
            · skip
              have hG := hG.trans (if_neg c_4144)
              have gc_4144 := ti_ne c_4144 rfl kc_0
              exfalso; clear hG; omega
    exact key_n_4137 ((((fM_r (27 + p0.toNatClampNeg)).toInt - (0 : Int32).toInt).toNat) + 1) 0 iM_orderMany iM_breaths iM_cutMany iM_orderSum iM_leastOrder fM_trial fM_heardRow fM_cutRow _ _ _ ⟨b_iM_breaths.1, b_iM_breaths.2⟩ ⟨b_iM_cutMany.1, b_iM_cutMany.2⟩ ⟨(om_b1de7dbe kc_0), (om_1fd76bdc him kc_0)⟩ (by first | assumption | omega | decide | exact keep_refl | exact Or.inr (fun q hq => absurd hq (by have q0 := kc_0; omega))) ⟨om_1cb5f934, (om_747f4803 kc_0)⟩ (by first | (have q0 := kc_0; have q1 := kc_1; omega) | decide | assumption | exact keep_refl | exact Or.inr (fun q hq => absurd hq (by have q0 := kc_0; omega))) (Nat.lt_add_one _) hG hP hD hS hl
  · skip
    have hG := hG.trans (if_pos c_4127)
    have gc_4127 := ti_eq c_4127 kc_1 rfl
    refine lv_aload_n hx hb dX7_tryOrders_13 rfl (lv_at hl 0 rfl) ?_
    refine lv_aload_n hx hb dX7_tryOrders_14 rfl (lv_at hl 0 rfl) ?_
    refine va_get (D := (dC, dI)) (ci := 7) (v := .ref rM_trial) (C := RX7) (T := TX7) (N := 48) hx hb hts inX7 hown hK hP 0 rfl rfl 33 (by decide) (hts _ wd_167) (fun _ h9 => h9) rfl dX7_tryOrders_15 ?_
    have hMs := ml_of hD [true, true, true, false, true, true, true] (wc := [(oc7 oM iM_thrown rM_tape iM_taped iM_size iM_at iM_end iM_token iM_whole iM_nameSize iM_fault iM_place iM_trouble rM_letters iM_failed iM_hasCourt rM_r rM_fresh rM_told rM_read rM_st rM_undone rM_kept iM_undos iM_images rM_fresher iM_fresherSize iM_scale iM_night rM_heardRow rM_cutRow iM_breaths iM_cutMany iM_allBreaths rM_trial rM_words iM_fewestBreaths iM_orderMany iM_orderSum iM_leastOrder rM_often iM_setMany iM_someOf iM_allOf iM_allWeight iM_enoughWeight iM_worthSum iM_firstRest iM_leastDrawn), (arI rM_r kM_r 287 fM_r), (arI rM_told kM_told 90 fM_told), (arI rM_heardRow kM_heardRow 400 fM_heardRow), (arI rM_cutRow kM_cutRow 800 fM_cutRow), (arI rM_trial kM_trial 90 fM_trial)]) rfl
    have hFc := va_freeM hD hS hA _ hMs
    refine va_calli (va_runV (As := [.ref rM_trial]) (rest := []) ⟨hx, hb, hml, hown, hts⟩ (tX7_breathsBy l dC dI _ oM iM_thrown rM_tape iM_taped iM_size iM_at iM_end iM_token iM_whole iM_nameSize iM_fault iM_place iM_trouble rM_letters iM_failed iM_hasCourt rM_r fM_r kM_r rM_fresh rM_told fM_told kM_told rM_read rM_st rM_undone rM_kept iM_undos iM_images rM_fresher iM_fresherSize iM_scale iM_night rM_heardRow fM_heardRow kM_heardRow rM_cutRow fM_cutRow kM_cutRow iM_breaths iM_cutMany iM_allBreaths rM_trial rM_words iM_fewestBreaths iM_orderMany iM_orderSum iM_leastOrder rM_often iM_setMany iM_someOf iM_allOf iM_allWeight iM_enoughWeight iM_worthSum iM_firstRest iM_leastDrawn rM_trial fM_trial kM_trial b_iM_taped b_iM_size b_iM_end b_iM_failed b_iM_hasCourt b_iM_undos b_iM_images b_iM_scale b_iM_breaths b_iM_cutMany (by assumption) (by assumption) (by assumption) (by first | assumption | exact rowt (by omega)) ⟨hth.1, hth.2⟩) (cwV 1 hts (wd_V wd_769 wd_770 wd_771 wd_5 (wd_c wd_772)) rfl rfl rfl dv_yX7_breathsBy_1 ⟨Nat.le_of_ble_eq_true rfl, Nat.le_of_ble_eq_true rfl⟩) ⟨Pw.fb, recvX7 hK hP (q0 := 0) rfl, fun U hU hW => Pw.to (hP.ms _ hMs) (hD.ms _ hMs) (hK.ms [true, true, false, true, true, true] rfl) hE hS hFc hU hW⟩ rfl rfl hl.1 rfl (lv_room (Nat.le_of_ble_eq_true rfl)) dX7_tryOrders_18 ⟨Nat.le_of_ble_eq_true rfl, Nat.le_of_ble_eq_true rfl⟩) hS (fun q _ h => hFc q h) hFc (fun r u t H locs ht hvm hw hB hz1 hk1 hS => ?_)
    have hru9 := hw.2
    have hw := hw.1
    refine ex_4_3 hB (fun x_4163 x_4164 f_4165 f_4166 b_x_4163 b_x_4164 e_x_4163_0 hB => ?_)
    obtain ⟨hP, hD⟩ := Bw.goN (ws' := [(oc7 oM iM_thrown rM_tape iM_taped iM_size iM_at iM_end iM_token iM_whole iM_nameSize iM_fault iM_place iM_trouble rM_letters iM_failed iM_hasCourt rM_r rM_fresh rM_told rM_read rM_st rM_undone rM_kept iM_undos iM_images rM_fresher iM_fresherSize iM_scale iM_night rM_heardRow rM_cutRow x_4163 x_4164 iM_allBreaths rM_trial rM_words iM_fewestBreaths iM_orderMany iM_orderSum iM_leastOrder rM_often iM_setMany iM_someOf iM_allOf iM_allWeight iM_enoughWeight iM_worthSum iM_firstRest iM_leastDrawn), (arI rM_r kM_r 287 fM_r), (arI rM_told kM_told 90 fM_told), (arI rM_st kM_st 90 fM_st), (arI rM_heardRow kM_heardRow 400 f_4165), (arI rM_cutRow kM_cutRow 800 f_4166), (arI rM_trial kM_trial 90 fM_trial)]) hB rfl ht hP hD _ hMs hk1 hFc rfl
    clear hz1 hk1 hvm ht hB hMs
    rw [← hru9] at e_x_4163_0
    obtain ⟨x_4167, rfl⟩ : ∃ z, z = r := ⟨_, rfl⟩
    have hG := hG.trans (un5_eq e_x_4163_0)
    have ux_4167 := hw.2
    refine lv_istore (lv' := [(4, .int x_4167), (0, .ref oM), (1, .int p0), (2, .int 1), (3, .int p1)]) hx hb dX7_tryOrders_21 hl (by decide) rfl (fun ls hl => ?_)
    refine lv_aload_n hx hb dX7_tryOrders_23 rfl (lv_at hl 1 rfl) ?_
    refine lv_dup hx hb dX7_tryOrders_24 rfl ?_
    refine va_get (D := (dC, dI)) (ci := 7) (v := .int iM_orderMany) (C := RX7) (T := TX7) (N := 48) hx hb hts inX7 hown hK hP 0 rfl rfl 36 (by decide) (hts _ wd_1065) (fun _ h9 => h9) rfl dX7_tryOrders_25 ?_
    refine lv_iconst (v := 1) hx hb dX7_tryOrders_28 (by decide) ?_
    refine lv_iadd hx hb dX7_tryOrders_29 ?_
    refine lv_topi (fun x_4168 ex_4168 => ?_)
    have hG := hG.trans (lt_eq ex_4168)
    have vx_4168 : x_4168.toInt = iM_orderMany.toInt + 1 := ti_add ex_4168 rfl kc_1 (om_4e4fce7e hom.1) (om_73cd4002 hom.2)
    refine va_put (D := (dC, dI)) (ci := 7) (v := .int x_4168) (ty := .int) (C := RX7) (T := TX7) (N := 48) hx hb hts inX7 tyX7 tyX7_ok nmX7 hown hK hP hD hS 0 rfl rfl 36 (by decide) (hts _ wd_1065) (fun _ h9 => h9) rfl (by decide +kernel) rfl rfl (Nat.le_of_ble_eq_true rfl) dX7_tryOrders_30 (fun H locs hP hD hS => ?_)
    obtain ⟨hP, hD⟩ := wl2 (ws' := [(oc7 oM iM_thrown rM_tape iM_taped iM_size iM_at iM_end iM_token iM_whole iM_nameSize iM_fault iM_place iM_trouble rM_letters iM_failed iM_hasCourt rM_r rM_fresh rM_told rM_read rM_st rM_undone rM_kept iM_undos iM_images rM_fresher iM_fresherSize iM_scale iM_night rM_heardRow rM_cutRow x_4163 x_4164 iM_allBreaths rM_trial rM_words iM_fewestBreaths x_4168 iM_orderSum iM_leastOrder rM_often iM_setMany iM_someOf iM_allOf iM_allWeight iM_enoughWeight iM_worthSum iM_firstRest iM_leastDrawn), (arI rM_r kM_r 287 fM_r), (arI rM_told kM_told 90 fM_told), (arI rM_st kM_st 90 fM_st), (arI rM_heardRow kM_heardRow 400 f_4165), (arI rM_cutRow kM_cutRow 800 f_4166), (arI rM_trial kM_trial 90 fM_trial)]) hP hD rfl
    refine lv_aload_n hx hb dX7_tryOrders_33 rfl (lv_at hl 1 rfl) ?_
    refine lv_dup hx hb dX7_tryOrders_34 rfl ?_
    refine va_get (D := (dC, dI)) (ci := 7) (v := .int iM_orderSum) (C := RX7) (T := TX7) (N := 48) hx hb hts inX7 hown hK hP 0 rfl rfl 37 (by decide) (hts _ wd_1064) (fun _ h9 => h9) rfl dX7_tryOrders_35 ?_
    refine lv_iload hx hb dX7_tryOrders_38 (lv_at hl 0 rfl) ?_
    refine lv_iadd hx hb dX7_tryOrders_40 ?_
    refine lv_topi (fun x_4169 ex_4169 => ?_)
    have hG := hG.trans (lt_eq ex_4169)
    refine va_put (D := (dC, dI)) (ci := 7) (v := .int x_4169) (ty := .int) (C := RX7) (T := TX7) (N := 48) hx hb hts inX7 tyX7 tyX7_ok nmX7 hown hK hP hD hS 0 rfl rfl 37 (by decide) (hts _ wd_1064) (fun _ h9 => h9) rfl (by decide +kernel) rfl rfl (Nat.le_of_ble_eq_true rfl) dX7_tryOrders_41 (fun H locs hP hD hS => ?_)
    obtain ⟨hP, hD⟩ := wl2 (ws' := [(oc7 oM iM_thrown rM_tape iM_taped iM_size iM_at iM_end iM_token iM_whole iM_nameSize iM_fault iM_place iM_trouble rM_letters iM_failed iM_hasCourt rM_r rM_fresh rM_told rM_read rM_st rM_undone rM_kept iM_undos iM_images rM_fresher iM_fresherSize iM_scale iM_night rM_heardRow rM_cutRow x_4163 x_4164 iM_allBreaths rM_trial rM_words iM_fewestBreaths x_4168 x_4169 iM_leastOrder rM_often iM_setMany iM_someOf iM_allOf iM_allWeight iM_enoughWeight iM_worthSum iM_firstRest iM_leastDrawn), (arI rM_r kM_r 287 fM_r), (arI rM_told kM_told 90 fM_told), (arI rM_st kM_st 90 fM_st), (arI rM_heardRow kM_heardRow 400 f_4165), (arI rM_cutRow kM_cutRow 800 f_4166), (arI rM_trial kM_trial 90 fM_trial)]) hP hD rfl
    refine lv_aload_n hx hb dX7_tryOrders_44 rfl (lv_at hl 1 rfl) ?_
    refine lv_iload hx hb dX7_tryOrders_45 (lv_at hl 0 rfl) ?_
    refine lv_aload_n hx hb dX7_tryOrders_47 rfl (lv_at hl 1 rfl) ?_
    refine va_get (D := (dC, dI)) (ci := 7) (v := .int iM_leastOrder) (C := RX7) (T := TX7) (N := 48) hx hb hts inX7 hown hK hP 0 rfl rfl 38 (by decide) (hts _ wd_1070) (fun _ h9 => h9) rfl dX7_tryOrders_48 ?_
    refine lv_icmp_ge (tgt := 59) hx hb dX7_tryOrders_51 (by decide) (fun c_4170 => ?_) (fun c_4170 => ?_)
    · skip
      have hG := hG.trans (if_pos c_4170)
      have gc_4170 := ti_le c_4170 rfl rfl
      refine lv_aload_n hx hb dX7_tryOrders_59 rfl (lv_at hl 1 rfl) ?_
      refine va_get (D := (dC, dI)) (ci := 7) (v := .int iM_leastOrder) (C := RX7) (T := TX7) (N := 48) hx hb hts inX7 hown hK hP 0 rfl rfl 38 (by decide) (hts _ wd_1070) (fun _ h9 => h9) rfl dX7_tryOrders_60 ?_
      refine va_put (D := (dC, dI)) (ci := 7) (v := .int iM_leastOrder) (ty := .int) (C := RX7) (T := TX7) (N := 48) hx hb hts inX7 tyX7 tyX7_ok nmX7 hown hK hP hD hS 0 rfl rfl 38 (by decide) (hts _ wd_1070) (fun _ h9 => h9) rfl (by decide +kernel) rfl rfl (Nat.le_of_ble_eq_true rfl) dX7_tryOrders_63 (fun H locs hP hD hS => ?_)
      obtain ⟨hP, hD⟩ := wl2 (ws' := [(oc7 oM iM_thrown rM_tape iM_taped iM_size iM_at iM_end iM_token iM_whole iM_nameSize iM_fault iM_place iM_trouble rM_letters iM_failed iM_hasCourt rM_r rM_fresh rM_told rM_read rM_st rM_undone rM_kept iM_undos iM_images rM_fresher iM_fresherSize iM_scale iM_night rM_heardRow rM_cutRow x_4163 x_4164 iM_allBreaths rM_trial rM_words iM_fewestBreaths x_4168 x_4169 iM_leastOrder rM_often iM_setMany iM_someOf iM_allOf iM_allWeight iM_enoughWeight iM_worthSum iM_firstRest iM_leastDrawn), (arI rM_r kM_r 287 fM_r), (arI rM_told kM_told 90 fM_told), (arI rM_st kM_st 90 fM_st), (arI rM_heardRow kM_heardRow 400 f_4165), (arI rM_cutRow kM_cutRow 800 f_4166), (arI rM_trial kM_trial 90 fM_trial)]) hP hD rfl
      exact wq_v hx hb hr 0 trivial (fun t ht hW => ⟨x_4163, x_4164, x_4168, x_4169, iM_leastOrder, f_4165, f_4166, fM_trial, b_x_4163, b_x_4164, ⟨(om_25096cef vx_4168), (om_ee32bb4e vx_4168)⟩, keep_refl, hG, Bw.to hP hD hK ht hW⟩) hS dX7_tryOrders_66 hlocks
    · skip
      have hG := hG.trans (if_neg c_4170)
      have gc_4170 := ti_nle c_4170 rfl rfl
      refine lv_iload hx hb dX7_tryOrders_54 (lv_at hl 0 rfl) ?_
      refine lv_goto (tgt := 63) hx hb dX7_tryOrders_56 (by decide) ?_
      refine va_put (D := (dC, dI)) (ci := 7) (v := .int x_4167) (ty := .int) (C := RX7) (T := TX7) (N := 48) hx hb hts inX7 tyX7 tyX7_ok nmX7 hown hK hP hD hS 0 rfl rfl 38 (by decide) (hts _ wd_1070) (fun _ h9 => h9) rfl (by decide +kernel) rfl rfl (Nat.le_of_ble_eq_true rfl) dX7_tryOrders_63 (fun H locs hP hD hS => ?_)
      obtain ⟨hP, hD⟩ := wl2 (ws' := [(oc7 oM iM_thrown rM_tape iM_taped iM_size iM_at iM_end iM_token iM_whole iM_nameSize iM_fault iM_place iM_trouble rM_letters iM_failed iM_hasCourt rM_r rM_fresh rM_told rM_read rM_st rM_undone rM_kept iM_undos iM_images rM_fresher iM_fresherSize iM_scale iM_night rM_heardRow rM_cutRow x_4163 x_4164 iM_allBreaths rM_trial rM_words iM_fewestBreaths x_4168 x_4169 x_4167 rM_often iM_setMany iM_someOf iM_allOf iM_allWeight iM_enoughWeight iM_worthSum iM_firstRest iM_leastDrawn), (arI rM_r kM_r 287 fM_r), (arI rM_told kM_told 90 fM_told), (arI rM_st kM_st 90 fM_st), (arI rM_heardRow kM_heardRow 400 f_4165), (arI rM_cutRow kM_cutRow 800 f_4166), (arI rM_trial kM_trial 90 fM_trial)]) hP hD rfl
      exact wq_v hx hb hr 0 trivial (fun t ht hW => ⟨x_4163, x_4164, x_4168, x_4169, x_4167, f_4165, f_4166, fM_trial, b_x_4163, b_x_4164, ⟨(om_25096cef vx_4168), (om_ee32bb4e vx_4168)⟩, keep_refl, hG, Bw.to hP hD hK ht hW⟩) hS dX7_tryOrders_66 hlocks
set_option maxHeartbeats 4000000 in
set_option maxRecDepth 100000 in
theorem tX7_try_0 (l : Launch) (dC : Nat → ClassId) (dI : Nat → Nat → Nat) (sz : Nat) (oM : Nat) (iM_thrown : Int32) (rM_tape : Nat) (iM_taped : Int32) (iM_size : Int32) (iM_at : Int32) (iM_end : Int32) (iM_token : Int32) (iM_whole : Int32) (iM_nameSize : Int32) (iM_fault : Int32) (iM_place : Int32) (iM_trouble : Int32) (rM_letters : Nat) (iM_failed : Int32) (iM_hasCourt : Int32) (rM_r : Nat) (fM_r : Nat → Int32) (kM_r : ClassId) (rM_fresh : Nat) (rM_told : Nat) (fM_told : Nat → Int32) (kM_told : ClassId) (rM_read : Nat) (rM_st : Nat) (fM_st : Nat → Int32) (kM_st : ClassId) (rM_undone : Nat) (rM_kept : Nat) (iM_undos : Int32) (iM_images : Int32) (rM_fresher : Nat) (iM_fresherSize : Int32) (iM_scale : Int32) (iM_night : Int32) (rM_heardRow : Nat) (fM_heardRow : Nat → Int32) (kM_heardRow : ClassId) (rM_cutRow : Nat) (fM_cutRow : Nat → Int32) (kM_cutRow : ClassId) (iM_breaths : Int32) (iM_cutMany : Int32) (iM_allBreaths : Int32) (rM_trial : Nat) (fM_trial : Nat → Int32) (kM_trial : ClassId) (rM_words : Nat) (iM_fewestBreaths : Int32) (iM_orderMany : Int32) (iM_orderSum : Int32) (iM_leastOrder : Int32) (rM_often : Nat) (iM_setMany : Int32) (iM_someOf : Int32) (iM_allOf : Int32) (iM_allWeight : Int64) (iM_enoughWeight : Int64) (iM_worthSum : Int64) (iM_firstRest : Int32) (iM_leastDrawn : Int32) (p0 : Int32) (p1 : Int32) (b_iM_taped : 0 ≤ iM_taped.toInt ∧ iM_taped.toInt ≤ 900) (b_iM_size : 0 ≤ iM_size.toInt ∧ iM_size.toInt ≤ 900) (b_iM_end : 0 ≤ iM_end.toInt ∧ iM_end.toInt ≤ 900) (b_iM_failed : 0 ≤ iM_failed.toInt ∧ iM_failed.toInt ≤ 1) (b_iM_hasCourt : 0 ≤ iM_hasCourt.toInt ∧ iM_hasCourt.toInt ≤ 1) (b_iM_undos : 0 ≤ iM_undos.toInt ∧ iM_undos.toInt ≤ 16) (b_iM_images : 0 ≤ iM_images.toInt ∧ iM_images.toInt ≤ 3) (b_iM_scale : 1 ≤ iM_scale.toInt ∧ iM_scale.toInt ≤ 1296) (b_iM_breaths : 0 ≤ iM_breaths.toInt ∧ iM_breaths.toInt ≤ 399) (b_iM_cutMany : 0 ≤ iM_cutMany.toInt ∧ iM_cutMany.toInt ≤ 399) (r_R : ROk fM_r) (r_C : iM_hasCourt.toInt ≤ 0 ∨ (1 ≤ (fM_r 1).toInt ∧ 0 ≤ (fM_r 6).toInt ∧ (fM_r 6).toInt < (fM_r 1).toInt)) (r_st : RowOk fM_r fM_st) (r_told : RowOk fM_r fM_told) (r_wst : WorOk fM_st) (hk0 : 0 ≤ p0.toInt ∧ p0.toInt < (fM_r 1).toInt) (hth : 0 ≤ (fM_r 6).toInt ∧ (fM_r 6).toInt < (fM_r 1).toInt) (him : 0 ≤ (fM_r (27 + p0.toNatClampNeg)).toInt) (hp1 : 0 ≤ p1.toInt ∧ p1.toInt ≤ 15) (hcn : cntP (bitN p1) (fM_r (27 + p0.toNatClampNeg)).toInt.toNat = 0) (htr : TryOk fM_r fM_st fM_trial p0.toNatClampNeg 0 p1) (hom : 0 ≤ iM_orderMany.toInt ∧ iM_orderMany.toInt ≤ 744) : Met l yX7_tryOrders (Cond.code yX7_tryOrders cX7_tryOrders 5 none :: wG) ({ frames := 26, cells := 0, slots := 0, locals := 720 }) (va_Pc [.ref oM, .int p0, .int 0, .int p1] (Pw dC dI sz [(oc7 oM iM_thrown rM_tape iM_taped iM_size iM_at iM_end iM_token iM_whole iM_nameSize iM_fault iM_place iM_trouble rM_letters iM_failed iM_hasCourt rM_r rM_fresh rM_told rM_read rM_st rM_undone rM_kept iM_undos iM_images rM_fresher iM_fresherSize iM_scale iM_night rM_heardRow rM_cutRow iM_breaths iM_cutMany iM_allBreaths rM_trial rM_words iM_fewestBreaths iM_orderMany iM_orderSum iM_leastOrder rM_often iM_setMany iM_someOf iM_allOf iM_allWeight iM_enoughWeight iM_worthSum iM_firstRest iM_leastDrawn), (arI rM_r kM_r 287 fM_r), (arI rM_told kM_told 90 fM_told), (arI rM_st kM_st 90 fM_st), (arI rM_heardRow kM_heardRow 400 fM_heardRow), (arI rM_cutRow kM_cutRow 800 fM_cutRow), (arI rM_trial kM_trial 90 fM_trial)] [(kM_r, .int), (kM_told, .int), (kM_st, .int), (kM_heardRow, .int), (kM_cutRow, .int), (kM_trial, .int)])) (va_Qv (fun (_ : Nat) => True) (fun (_ : Nat) (t : State) => ∃ (niM_breaths : Int32) (niM_cutMany : Int32) (niM_orderMany : Int32) (niM_orderSum : Int32) (niM_leastOrder : Int32) (nfM_heardRow : Nat → Int32) (nfM_cutRow : Nat → Int32) (nfM_trial : Nat → Int32), (0 ≤ niM_breaths.toInt ∧ niM_breaths.toInt ≤ 399) ∧ (0 ≤ niM_cutMany.toInt ∧ niM_cutMany.toInt ≤ 399) ∧ (iM_orderMany.toInt + 1 ≤ niM_orderMany.toInt ∧ niM_orderMany.toInt ≤ iM_orderMany.toInt + 256) ∧ (KeepI fM_trial p0.toNatClampNeg 0 nfM_trial) ∧ (PX7_try_0 fM_r fM_told fM_st iM_scale fM_heardRow fM_cutRow iM_breaths iM_cutMany fM_trial iM_orderMany iM_orderSum iM_leastOrder p0 p1 = (niM_breaths, niM_cutMany, niM_orderMany, niM_orderSum, niM_leastOrder, nfM_heardRow, nfM_cutRow, nfM_trial)) ∧ Bw dC dI (va_A [(oc7 oM iM_thrown rM_tape iM_taped iM_size iM_at iM_end iM_token iM_whole iM_nameSize iM_fault iM_place iM_trouble rM_letters iM_failed iM_hasCourt rM_r rM_fresh rM_told rM_read rM_st rM_undone rM_kept iM_undos iM_images rM_fresher iM_fresherSize iM_scale iM_night rM_heardRow rM_cutRow iM_breaths iM_cutMany iM_allBreaths rM_trial rM_words iM_fewestBreaths iM_orderMany iM_orderSum iM_leastOrder rM_often iM_setMany iM_someOf iM_allOf iM_allWeight iM_enoughWeight iM_worthSum iM_firstRest iM_leastDrawn), (arI rM_r kM_r 287 fM_r), (arI rM_told kM_told 90 fM_told), (arI rM_st kM_st 90 fM_st), (arI rM_heardRow kM_heardRow 400 fM_heardRow), (arI rM_cutRow kM_cutRow 800 fM_cutRow), (arI rM_trial kM_trial 90 fM_trial)] sz) [(oc7 oM iM_thrown rM_tape iM_taped iM_size iM_at iM_end iM_token iM_whole iM_nameSize iM_fault iM_place iM_trouble rM_letters iM_failed iM_hasCourt rM_r rM_fresh rM_told rM_read rM_st rM_undone rM_kept iM_undos iM_images rM_fresher iM_fresherSize iM_scale iM_night rM_heardRow rM_cutRow niM_breaths niM_cutMany iM_allBreaths rM_trial rM_words iM_fewestBreaths niM_orderMany niM_orderSum niM_leastOrder rM_often iM_setMany iM_someOf iM_allOf iM_allWeight iM_enoughWeight iM_worthSum iM_firstRest iM_leastDrawn), (arI rM_r kM_r 287 fM_r), (arI rM_told kM_told 90 fM_told), (arI rM_st kM_st 90 fM_st), (arI rM_heardRow kM_heardRow 400 nfM_heardRow), (arI rM_cutRow kM_cutRow 800 nfM_cutRow), (arI rM_trial kM_trial 90 nfM_trial)] [(kM_r, .int), (kM_told, .int), (kM_st, .int), (kM_heardRow, .int), (kM_cutRow, .int), (kM_trial, .int)] t) (va_A [(oc7 oM iM_thrown rM_tape iM_taped iM_size iM_at iM_end iM_token iM_whole iM_nameSize iM_fault iM_place iM_trouble rM_letters iM_failed iM_hasCourt rM_r rM_fresh rM_told rM_read rM_st rM_undone rM_kept iM_undos iM_images rM_fresher iM_fresherSize iM_scale iM_night rM_heardRow rM_cutRow iM_breaths iM_cutMany iM_allBreaths rM_trial rM_words iM_fewestBreaths iM_orderMany iM_orderSum iM_leastOrder rM_often iM_setMany iM_someOf iM_allOf iM_allWeight iM_enoughWeight iM_worthSum iM_firstRest iM_leastDrawn), (arI rM_r kM_r 287 fM_r), (arI rM_told kM_told 90 fM_told), (arI rM_st kM_st 90 fM_st), (arI rM_heardRow kM_heardRow 400 fM_heardRow), (arI rM_cutRow kM_cutRow 800 fM_cutRow), (arI rM_trial kM_trial 90 fM_trial)] sz)) 0 0 (va_A [(oc7 oM iM_thrown rM_tape iM_taped iM_size iM_at iM_end iM_token iM_whole iM_nameSize iM_fault iM_place iM_trouble rM_letters iM_failed iM_hasCourt rM_r rM_fresh rM_told rM_read rM_st rM_undone rM_kept iM_undos iM_images rM_fresher iM_fresherSize iM_scale iM_night rM_heardRow rM_cutRow iM_breaths iM_cutMany iM_allBreaths rM_trial rM_words iM_fewestBreaths iM_orderMany iM_orderSum iM_leastOrder rM_often iM_setMany iM_someOf iM_allOf iM_allWeight iM_enoughWeight iM_worthSum iM_firstRest iM_leastDrawn), (arI rM_r kM_r 287 fM_r), (arI rM_told kM_told 90 fM_told), (arI rM_st kM_st 90 fM_st), (arI rM_heardRow kM_heardRow 400 fM_heardRow), (arI rM_cutRow kM_cutRow 800 fM_cutRow), (arI rM_trial kM_trial 90 fM_trial)] sz) := by
  refine Met.ofW (cc := cX7_tryOrders) (maxL := 5) (ret := none) pnX7 rfl ?_
  intro p e s m args below meth c s₁ B hml hv
  obtain ⟨rfl, hsz, hP, hK, hD0, hE⟩ := hv
  have hx := B.exec
  have hb := B.bytes
  have hr := B.returns
  have hts : ∀ w ∈ wG, w.before ([.ref oM, .int p0, .int 0, .int p1] : List Value).toArray s = true := fun w h => atoms_spec (ws := Cond.code yX7_tryOrders cX7_tryOrders 5 none :: wG) B.pre w (List.mem_cons_of_mem _ h)
  have hown : s.vm.findClass RX7 = some m.cls := own_of B.named rfl
  have hlocks := B.notSynchronized
  subst hsz
  have hD := hD0.self (sz := s.heap.size)
  generalize hAe : va_A [(oc7 oM iM_thrown rM_tape iM_taped iM_size iM_at iM_end iM_token iM_whole iM_nameSize iM_fault iM_place iM_trouble rM_letters iM_failed iM_hasCourt rM_r rM_fresh rM_told rM_read rM_st rM_undone rM_kept iM_undos iM_images rM_fresher iM_fresherSize iM_scale iM_night rM_heardRow rM_cutRow iM_breaths iM_cutMany iM_allBreaths rM_trial rM_words iM_fewestBreaths iM_orderMany iM_orderSum iM_leastOrder rM_often iM_setMany iM_someOf iM_allOf iM_allWeight iM_enoughWeight iM_worthSum iM_firstRest iM_leastDrawn), (arI rM_r kM_r 287 fM_r), (arI rM_told kM_told 90 fM_told), (arI rM_st kM_st 90 fM_st), (arI rM_heardRow kM_heardRow 400 fM_heardRow), (arI rM_cutRow kM_cutRow 800 fM_cutRow), (arI rM_trial kM_trial 90 fM_trial)] s.heap.size = A at hD hE ⊢
  have hA : ∀ q : Nat, s.heap.size ≤ q → A q := fun q h => by rw [← hAe]; exact Or.inr h
  have hS : va_S A s.heap s.heap [] := va_S.rf
  have hl := lv_entry ([.ref oM, .int p0, .int 0, .int p1]) (n := 5) (Nat.le_of_ble_eq_true rfl)
  rw [lg_entry_eq]
  generalize (lg_sl ([.ref oM, .int p0, .int 0, .int p1]) ++ List.replicate (5 - (lg_sl ([.ref oM, .int p0, .int 0, .int p1])).length) Slot.unset).toArray = ls at hl ⊢
  have hl : lv_has ls 5 [(0, .ref oM), (1, .int p0), (2, .int 0), (3, .int p1)] := hl
  have hG := PX7_try_0_eq fM_r fM_told fM_st iM_scale fM_heardRow fM_cutRow iM_breaths iM_cutMany fM_trial iM_orderMany iM_orderSum iM_leastOrder p0 p1
  have s_slips := r_R.slips
  have s_nodes := r_R.nodes
  have s_uns := r_R.uns
  have q_p0 := ti_cl (x := p0) rfl hk0.1
  have mn_p0 := r_R.many (27 + p0.toNatClampNeg) (Nat.le_add_right _ _) (om_6c263690 (ti_cl (x := p0) rfl hk0.1) hk0.2 s_nodes.2)
  have kn_p0 := r_R.kind (9 + p0.toNatClampNeg) (Nat.le_add_right _ _) (om_57ce868b (ti_cl (x := p0) rfl hk0.1) hk0.2 s_nodes.2)
  have in_p0 := r_R.inner p0.toNatClampNeg (om_05d4ad0a (ti_cl (x := p0) rfl hk0.1) hk0.2)
  have rowt : ((0 : Nat) : Int) = (fM_r (27 + p0.toNatClampNeg)).toInt → RowOk fM_r fM_trial := fun h9 => TryOk.row r_R r_st htr (by omega) h9
  refine lv_iload_n hx hb dX7_tryOrders_0 rfl (lv_at hl 2 rfl) ?_
  refine lv_aload_n hx hb dX7_tryOrders_1 rfl (lv_at hl 0 rfl) ?_
  refine va_get (D := (dC, dI)) (ci := 7) (v := .ref rM_r) (C := RX7) (T := TX7) (N := 48) hx hb hts inX7 hown hK hP 0 rfl rfl 15 (by decide) (hts _ wd_155) (fun _ h9 => h9) rfl dX7_tryOrders_2 ?_
  refine lv_bipush (v := 27) hx hb dX7_tryOrders_5 (by decide) ?_
  refine lv_iload_n hx hb dX7_tryOrders_7 rfl (lv_at hl 1 rfl) ?_
  refine lv_iadd hx hb dX7_tryOrders_8 ?_
  refine lv_topi (fun x_4249 ex_4249 => ?_)
  have hG := hG.trans (lt_eq ex_4249)
  have vx_4249 : x_4249.toInt = p0.toInt + 27 := om_6c48219a (ti_add ex_4249 kc_27 rfl (om_edd3f7cf hk0.1) (om_cf6669ce hk0.2 s_nodes.2))
  refine va_iald hx hb hK hP 1 0 rfl rfl (ti_in vx_4249 (om_b4b48b7f hk0.1) (om_420abfc6 hk0.2 s_nodes.2)) dX7_tryOrders_9 ?_
  refine lv_topi (fun x_4250 ex_4250 => ?_)
  have hG := hG.trans (lt_eq ex_4250)
  have kx_4250 : (fM_r x_4249.toNatClampNeg).toInt = x_4250.toInt := by rw [ex_4250]
  have cx_4250 : (fM_r (27 + p0.toNatClampNeg)).toInt = x_4250.toInt := by rw [show 27 + p0.toNatClampNeg = x_4249.toNatClampNeg from (om_779a3124 (ti_cl (x := p0) rfl hk0.1) (ti_cl (x := x_4249) vx_4249 (om_b4b48b7f hk0.1)))]; exact kx_4250
  have sx_4250 := r_R.many x_4249.toNatClampNeg (om_ab5399c3 (ti_cl (x := x_4249) vx_4249 (om_b4b48b7f hk0.1)) hk0.1) (om_3b68d876 (ti_cl (x := x_4249) vx_4249 (om_b4b48b7f hk0.1)) hk0.2 s_nodes.2)
  refine lv_icmp_ne (tgt := 67) hx hb dX7_tryOrders_10 (by decide) (fun c_4251 => ?_) (fun c_4251 => ?_)
  · skip
    have hG := hG.trans (if_neg c_4251)
    have gc_4251 := ti_ne c_4251 kc_0 rfl
    refine lv_iconst (v := 0) hx hb dX7_tryOrders_67 (by decide) ?_
    refine lv_istore (lv' := [(4, .int 0), (0, .ref oM), (1, .int p0), (2, .int 0), (3, .int p1)]) hx hb dX7_tryOrders_68 hl (by decide) rfl (fun ls hl => ?_)
    have hl := lv_sub hl (l' := [(4, .int 0), (0, .ref oM), (1, .int p0), (2, .int 0), (3, .int p1)]) [0, 1, 2, 3, 4] rfl
    have key_n_4261 : ∀ (n_4261 : Nat) (z_4252 : Int32) (z_4253 : Int32) (z_4254 : Int32) (z_4255 : Int32) (z_4256 : Int32) (z_4257 : Int32) (f_4258 : Nat → Int32) (f_4259 : Nat → Int32) (f_4260 : Nat → Int32) (H : Heap) (locs : List Loc) (ls : Array Slot), (0 ≤ z_4254.toInt ∧ z_4254.toInt ≤ 399) → (0 ≤ z_4255.toInt ∧ z_4255.toInt ≤ 399) → (0 ≤ z_4252.toInt ∧ z_4252.toInt ≤ (fM_r (27 + p0.toNatClampNeg)).toInt) → (KeepI fM_trial p0.toNatClampNeg 0 f_4258) → (iM_orderMany.toInt ≤ z_4253.toInt ∧ z_4253.toInt ≤ iM_orderMany.toInt + 64 * z_4252.toInt) → (iM_orderMany.toInt + 1 ≤ z_4253.toInt ∨ ∀ q : Nat, (q : Int) < z_4252.toInt → bitN p1 q) → ((fM_r (27 + p0.toNatClampNeg)).toInt - z_4252.toInt).toNat < n_4261 → (PX7_try_0 fM_r fM_told fM_st iM_scale fM_heardRow fM_cutRow iM_breaths iM_cutMany fM_trial iM_orderMany iM_orderSum iM_leastOrder p0 p1 = HX7_try_0_0 fM_r fM_told fM_st iM_scale p0 p1 n_4261 z_4252 z_4253 z_4254 z_4255 z_4256 z_4257 f_4258 f_4259 f_4260) → va_P (dC, dI) vwCl [(oc7 oM iM_thrown rM_tape iM_taped iM_size iM_at iM_end iM_token iM_whole iM_nameSize iM_fault iM_place iM_trouble rM_letters iM_failed iM_hasCourt rM_r rM_fresh rM_told rM_read rM_st rM_undone rM_kept iM_undos iM_images rM_fresher iM_fresherSize iM_scale iM_night rM_heardRow rM_cutRow z_4254 z_4255 iM_allBreaths rM_trial rM_words iM_fewestBreaths z_4253 z_4256 z_4257 rM_often iM_setMany iM_someOf iM_allOf iM_allWeight iM_enoughWeight iM_worthSum iM_firstRest iM_leastDrawn), (arI rM_r kM_r 287 fM_r), (arI rM_told kM_told 90 fM_told), (arI rM_st kM_st 90 fM_st), (arI rM_heardRow kM_heardRow 400 f_4259), (arI rM_cutRow kM_cutRow 800 f_4260), (arI rM_trial kM_trial 90 f_4258)] H → va_D A [(oc7 oM iM_thrown rM_tape iM_taped iM_size iM_at iM_end iM_token iM_whole iM_nameSize iM_fault iM_place iM_trouble rM_letters iM_failed iM_hasCourt rM_r rM_fresh rM_told rM_read rM_st rM_undone rM_kept iM_undos iM_images rM_fresher iM_fresherSize iM_scale iM_night rM_heardRow rM_cutRow z_4254 z_4255 iM_allBreaths rM_trial rM_words iM_fewestBreaths z_4253 z_4256 z_4257 rM_often iM_setMany iM_someOf iM_allOf iM_allWeight iM_enoughWeight iM_worthSum iM_firstRest iM_leastDrawn), (arI rM_r kM_r 287 fM_r), (arI rM_told kM_told 90 fM_told), (arI rM_st kM_st 90 fM_st), (arI rM_heardRow kM_heardRow 400 f_4259), (arI rM_cutRow kM_cutRow 800 f_4260), (arI rM_trial kM_trial 90 f_4258)] → va_S A s.heap H locs → lv_has ls 5 [(4, .int z_4252), (0, .ref oM), (1, .int p0), (2, .int 0), (3, .int p1)] → W p l e (headSpec (Cond.code yX7_tryOrders cX7_tryOrders 5 none :: wG) ({ frames := 26, cells := 0, slots := 0, locals := 720 })).room s m ([.ref oM, .int p0, .int 0, .int p1] : List Value).toArray below meth c H locs 0 0 (MQ below (va_Qv (fun (_ : Nat) => True) (fun (_ : Nat) (t : State) => ∃ (niM_breaths : Int32) (niM_cutMany : Int32) (niM_orderMany : Int32) (niM_orderSum : Int32) (niM_leastOrder : Int32) (nfM_heardRow : Nat → Int32) (nfM_cutRow : Nat → Int32) (nfM_trial : Nat → Int32), (0 ≤ niM_breaths.toInt ∧ niM_breaths.toInt ≤ 399) ∧ (0 ≤ niM_cutMany.toInt ∧ niM_cutMany.toInt ≤ 399) ∧ (iM_orderMany.toInt + 1 ≤ niM_orderMany.toInt ∧ niM_orderMany.toInt ≤ iM_orderMany.toInt + 256) ∧ (KeepI fM_trial p0.toNatClampNeg 0 nfM_trial) ∧ (PX7_try_0 fM_r fM_told fM_st iM_scale fM_heardRow fM_cutRow iM_breaths iM_cutMany fM_trial iM_orderMany iM_orderSum iM_leastOrder p0 p1 = (niM_breaths, niM_cutMany, niM_orderMany, niM_orderSum, niM_leastOrder, nfM_heardRow, nfM_cutRow, nfM_trial)) ∧ Bw dC dI A [(oc7 oM iM_thrown rM_tape iM_taped iM_size iM_at iM_end iM_token iM_whole iM_nameSize iM_fault iM_place iM_trouble rM_letters iM_failed iM_hasCourt rM_r rM_fresh rM_told rM_read rM_st rM_undone rM_kept iM_undos iM_images rM_fresher iM_fresherSize iM_scale iM_night rM_heardRow rM_cutRow niM_breaths niM_cutMany iM_allBreaths rM_trial rM_words iM_fewestBreaths niM_orderMany niM_orderSum niM_leastOrder rM_often iM_setMany iM_someOf iM_allOf iM_allWeight iM_enoughWeight iM_worthSum iM_firstRest iM_leastDrawn), (arI rM_r kM_r 287 fM_r), (arI rM_told kM_told 90 fM_told), (arI rM_st kM_st 90 fM_st), (arI rM_heardRow kM_heardRow 400 nfM_heardRow), (arI rM_cutRow kM_cutRow 800 nfM_cutRow), (arI rM_trial kM_trial 90 nfM_trial)] [(kM_r, .int), (kM_told, .int), (kM_st, .int), (kM_heardRow, .int), (kM_cutRow, .int), (kM_trial, .int)] t) A) ([.ref oM, .int p0, .int 0, .int p1] : List Value).toArray s 0 0 A) (F0 m 70 ls []) := by
      intro n_4261
      induction n_4261 with
      | zero => intro z_4252 z_4253 z_4254 z_4255 z_4256 z_4257 f_4258 f_4259 f_4260 H locs ls b_z_4254 b_z_4255 hi0_n_4261 hi1_n_4261 hi2_n_4261 hi3_n_4261 hm; exact absurd hm (Nat.not_lt_zero _)
      | succ n_4261 ih_n_4261 =>
        intro z_4252 z_4253 z_4254 z_4255 z_4256 z_4257 f_4258 f_4259 f_4260 H locs ls b_z_4254 b_z_4255 hi0_n_4261 hi1_n_4261 hi2_n_4261 hi3_n_4261 hm_n_4261 hG hP hD hS hl
        have hG := hG.trans (HX7_try_0_0_eq _ _ _ _ _ _ _ _ _ _ _ _ _ _ _ _)
        refine lv_iload hx hb dX7_tryOrders_70 (lv_at hl 0 rfl) ?_
        refine lv_aload_n hx hb dX7_tryOrders_72 rfl (lv_at hl 1 rfl) ?_
        refine va_get (D := (dC, dI)) (ci := 7) (v := .ref rM_r) (C := RX7) (T := TX7) (N := 48) hx hb hts inX7 hown hK hP 0 rfl rfl 15 (by decide) (hts _ wd_155) (fun _ h9 => h9) rfl dX7_tryOrders_73 ?_
        refine lv_bipush (v := 27) hx hb dX7_tryOrders_76 (by decide) ?_
        refine lv_iload_n hx hb dX7_tryOrders_78 rfl (lv_at hl 2 rfl) ?_
        refine lv_iadd hx hb dX7_tryOrders_79 ?_
        refine lv_topi (fun x_4262 ex_4262 => ?_)
        have hG := hG.trans (lt_eq ex_4262)
        have vx_4262 : x_4262.toInt = p0.toInt + 27 := om_6c48219a (ti_add ex_4262 kc_27 rfl (om_edd3f7cf hk0.1) (om_cf6669ce hk0.2 s_nodes.2))
        refine va_iald hx hb hK hP 1 0 rfl rfl (ti_in vx_4262 (om_b4b48b7f hk0.1) (om_420abfc6 hk0.2 s_nodes.2)) dX7_tryOrders_80 ?_
        refine lv_topi (fun x_4263 ex_4263 => ?_)
        have hG := hG.trans (lt_eq ex_4263)
        have kx_4263 : (fM_r x_4262.toNatClampNeg).toInt = x_4263.toInt := by rw [ex_4263]
        have cx_4263 : (fM_r (27 + p0.toNatClampNeg)).toInt = x_4263.toInt := by rw [show 27 + p0.toNatClampNeg = x_4262.toNatClampNeg from (om_779a3124 (ti_cl (x := p0) rfl hk0.1) (ti_cl (x := x_4262) vx_4262 (om_b4b48b7f hk0.1)))]; exact kx_4263
        have sx_4263 := r_R.many x_4262.toNatClampNeg (om_ab5399c3 (ti_cl (x := x_4262) vx_4262 (om_b4b48b7f hk0.1)) hk0.1) (om_3b68d876 (ti_cl (x := x_4262) vx_4262 (om_b4b48b7f hk0.1)) hk0.2 s_nodes.2)
        refine lv_icmp_ge (tgt := 137) hx hb dX7_tryOrders_81 (by decide) (fun c_4264 => ?_) (fun c_4264 => ?_)
        · skip
          have hG := hG.trans (if_pos c_4264)
          have gc_4264 := ti_le c_4264 rfl rfl
          exact wq_v hx hb hr 0 trivial (fun t ht hW => ⟨z_4254, z_4255, z_4253, z_4256, z_4257, f_4259, f_4260, f_4258, b_z_4254, b_z_4255, (by rcases hi3_n_4261 with h9 | h9; omega; exact absurd (cnt_full (P := bitN p1) (fM_r (27 + p0.toNatClampNeg)).toInt.toNat (fun q hq => h9 q (by omega))) (by rw [hcn]; omega)), (by assumption), hG, Bw.to hP hD hK ht hW⟩) hS dX7_tryOrders_137 hlocks
        · skip
          have hG := hG.trans (if_neg c_4264)
          have gc_4264 := ti_nle c_4264 rfl rfl
          refine lv_iload_n hx hb dX7_tryOrders_84 rfl (lv_at hl 4 rfl) ?_
          refine lv_iload hx hb dX7_tryOrders_85 (lv_at hl 0 rfl) ?_
          have hFc : ∀ q, va_A [] _ q → A q := fun q h => hA q (Nat.le_trans hS.1 (va_nilA h))
          refine va_calli (va_runS (As := [.int p1, .int z_4252]) (rest := []) ⟨hx, hb, hml, hown, hts⟩ (tX7_hasBit l dC dI _ p1 z_4252 ) (va_cwS 2 hts (wd_S wd_968 wd_969 wd_5 (wd_c wd_970)) rfl rfl rfl ds_yX7_hasBit_2 ⟨Nat.le_of_ble_eq_true rfl, Nat.le_of_ble_eq_true rfl⟩) ⟨Pw.fb, fun U hU hW => Pn.to hK hE hS hA hU hW⟩ rfl rfl hl.1 rfl (lv_room (Nat.le_of_ble_eq_true rfl)) dX7_tryOrders_87 ⟨Nat.le_of_ble_eq_true rfl, Nat.le_of_ble_eq_true rfl⟩) hS (fun q _ h => hFc q h) hFc (fun r u t H locs ht hvm hw hB hz1 hk1 hS => ?_)
          obtain ⟨hP, hD, hK⟩ := Bw.same ht hvm hP hD hK hk1 hFc
          clear hz1 hk1 hvm ht hB
          have hq9 := hw.2
          have hw := hw.1
          obtain ⟨x_4265, rfl⟩ : ∃ z, z = r := ⟨_, rfl⟩
          have hq_x_4265 := hq9
          have hG := hG.trans (lt_eq hq_x_4265.symm)
          have bx_4265 := hw.1
          have dx_4265 := bz_tb bx_4265
          have px_4265 := hw.2
          rcases px_4265 with ⟨gx_4265, hx_4265⟩ | ⟨gx_4265, hx_4265⟩
          · skip
            have g9x_4265 : x_4265.toInt = 1 := by rw [gx_4265]; exact kc_1
            have hb9 : bitN p1 z_4252.toNatClampNeg := (tb_bit (by omega) (by omega)).mp hx_4265
            refine lv_if_eq (tgt := 96) hx hb dX7_tryOrders_90 (by decide) (fun c_4266 => ?_) (fun c_4266 => ?_)
            · skip
              have hG := hG.trans (if_pos c_4266)
              have gc_4266 := ti_eq c_4266 rfl kc_0
              exfalso; clear hG; omega
            · skip
              have hG := hG.trans (if_neg c_4266)
              have gc_4266 := ti_ne c_4266 rfl kc_0
              refine lv_goto (tgt := 131) hx hb dX7_tryOrders_93 (by decide) ?_
              obtain ⟨x_4267, ex_4267⟩ : ∃ z : Int32, z = z_4252 + Int32.ofInt 1 := ⟨_, rfl⟩
              have hG := hG.trans (lt_eq ex_4267)
              have vx_4267 : x_4267.toInt = z_4252.toInt + 1 := ti_add (y := 1) ex_4267 rfl kc_1 (om_4e4fce7e hi0_n_4261.1) (om_d6392c09 mn_p0.2 hi0_n_4261.2)
              refine lv_iinc (v := x_4267) (lv' := [(4, .int x_4267), (0, .ref oM), (1, .int p0), (2, .int 0), (3, .int p1)]) hx hb dX7_tryOrders_131 hl (k := 0) rfl ex_4267.symm (by decide) rfl (fun ls hl => ?_)
              refine lv_goto (tgt := 70) hx hb dX7_tryOrders_134 (by decide) ?_
              exact ih_n_4261 x_4267 z_4253 z_4254 z_4255 z_4256 z_4257 f_4258 f_4259 f_4260 _ _ _ b_z_4254 b_z_4255 ⟨(om_83b90de5 hi0_n_4261.1 vx_4267), (om_1ad1f819 cx_4263 gc_4264 vx_4267)⟩ (by first | assumption | omega | decide) ⟨hi2_n_4261.1, (om_535548d7 hi2_n_4261.2 vx_4267)⟩ (by rcases hi3_n_4261 with h9 | h9; exact Or.inl (by omega); exact Or.inr (fun q hq => by by_cases e9 : q = z_4252.toNatClampNeg; (rw [e9]; exact hb9); exact h9 q (by have q1 := ti_cl (x := z_4252) rfl hi0_n_4261.1; omega))) (ms_lt hm_n_4261 (om_dd4ae0bc vx_4267) (om_6d498008 cx_4263 gc_4264)) hG hP hD hS (lv_sub hl [0, 1, 2, 3, 4] rfl)
          · skip
            have g9x_4265 : x_4265.toInt = 0 := by rw [gx_4265]; exact kc_0
            have hb9 : ¬ bitN p1 z_4252.toNatClampNeg := fun z9 => hx_4265 ((tb_bit (by omega) (by omega)).mpr z9)
            refine lv_if_eq (tgt := 96) hx hb dX7_tryOrders_90 (by decide) (fun c_4268 => ?_) (fun c_4268 => ?_)
            · skip
              have hG := hG.trans (if_pos c_4268)
              have gc_4268 := ti_eq c_4268 rfl kc_0
              refine lv_aload_n hx hb dX7_tryOrders_96 rfl (lv_at hl 1 rfl) ?_
              refine va_get (D := (dC, dI)) (ci := 7) (v := .ref rM_trial) (C := RX7) (T := TX7) (N := 48) hx hb hts inX7 hown hK hP 0 rfl rfl 33 (by decide) (hts _ wd_167) (fun _ h9 => h9) rfl dX7_tryOrders_97 ?_
              refine lv_iconst (v := 4) hx hb dX7_tryOrders_100 (by decide) ?_
              refine lv_iload_n hx hb dX7_tryOrders_101 rfl (lv_at hl 2 rfl) ?_
              refine lv_imul hx hb dX7_tryOrders_102 ?_
              refine lv_topi (fun x_4269 ex_4269 => ?_)
              have hG := hG.trans (lt_eq ex_4269)
              have vx_4269 : x_4269.toInt = 4 * p0.toInt := ti_mul ex_4269 kc_4 rfl (om_56b74365 hk0.1) (om_eac0354e hk0.2 s_nodes.2)
              refine lv_iload_n hx hb dX7_tryOrders_103 rfl (lv_at hl 3 rfl) ?_
              refine lv_iadd hx hb dX7_tryOrders_104 ?_
              refine lv_topi (fun x_4270 ex_4270 => ?_)
              have hG := hG.trans (lt_eq ex_4270)
              have vx_4270 : x_4270.toInt = 4 * p0.toInt := om_1c900f0b (ti_add ex_4270 vx_4269 kc_0 (om_dc0ac3c6 hk0.1) (om_ab2f2710 hk0.2 s_nodes.2))
              refine lv_aload_n hx hb dX7_tryOrders_105 rfl (lv_at hl 1 rfl) ?_
              refine va_get (D := (dC, dI)) (ci := 7) (v := .ref rM_st) (C := RX7) (T := TX7) (N := 48) hx hb hts inX7 hown hK hP 0 rfl rfl 19 (by decide) (hts _ wd_159) (fun _ h9 => h9) rfl dX7_tryOrders_106 ?_
              refine lv_iconst (v := 4) hx hb dX7_tryOrders_109 (by decide) ?_
              refine lv_iload_n hx hb dX7_tryOrders_110 rfl (lv_at hl 2 rfl) ?_
              refine lv_imul hx hb dX7_tryOrders_111 ?_
              refine lv_topi (fun x_4271 ex_4271 => ?_)
              have hG := hG.trans (lt_eq ex_4271)
              have vx_4271 : x_4271.toInt = 4 * p0.toInt := ti_mul ex_4271 kc_4 rfl (om_56b74365 hk0.1) (om_eac0354e hk0.2 s_nodes.2)
              refine lv_iload hx hb dX7_tryOrders_112 (lv_at hl 0 rfl) ?_
              refine lv_iadd hx hb dX7_tryOrders_114 ?_
              refine lv_topi (fun x_4272 ex_4272 => ?_)
              have hG := hG.trans (lt_eq ex_4272)
              have vx_4272 : x_4272.toInt = 4 * p0.toInt + z_4252.toInt := om_5d0caf0f (ti_add ex_4272 vx_4271 rfl (om_056a216f hk0.1 hi0_n_4261.1) (om_da12a7f8 hk0.2 s_nodes.2 mn_p0.2 hi0_n_4261.2))
              refine va_iald hx hb hK hP 3 2 rfl rfl (ti_in vx_4272 (om_fc2812d4 hk0.1 hi0_n_4261.1) (om_01db022b hk0.2 s_nodes.2 mn_p0.2 hi0_n_4261.2)) dX7_tryOrders_115 ?_
              refine lv_topi (fun x_4273 ex_4273 => ?_)
              have hG := hG.trans (lt_eq ex_4273)
              have kx_4273 : (fM_st x_4272.toNatClampNeg).toInt = x_4273.toInt := by rw [ex_4273]
              have cx_4273 : (fM_st (4 * p0.toNatClampNeg + z_4252.toNatClampNeg)).toInt = x_4273.toInt := by rw [show 4 * p0.toNatClampNeg + z_4252.toNatClampNeg = x_4272.toNatClampNeg from (om_4de36627 (ti_cl (x := p0) rfl hk0.1) (ti_cl (x := z_4252) rfl hi0_n_4261.1) (ti_cl (x := x_4272) vx_4272 (om_fc2812d4 hk0.1 hi0_n_4261.1)))]; exact kx_4273
              have wx_4273 : 0 ≤ x_4273.toInt ∧ x_4273.toInt < p0.toInt := row_lt r_st (i := z_4252.toNatClampNeg) (ti_cl (x := p0) rfl hk0.1) (ti_cl (x := z_4252) rfl hi0_n_4261.1) hk0.2 (om_644b432c cx_4263 gc_4264) (om_24300f0a (ti_cl (x := p0) rfl hk0.1) (ti_cl (x := z_4252) rfl hi0_n_4261.1)) cx_4273
              refine va_iast hx hb hK hP hD hS 6 5 rfl rfl (ti_in vx_4270 (om_707cdfc8 hk0.1) (om_0fea8496 hk0.2 s_nodes.2)) dX7_tryOrders_116 (fun H locs hP hD hS => ?_)
              obtain ⟨f_4274, ef_4274⟩ : ∃ g : Nat → Int32, g = upd f_4258 x_4270.toNatClampNeg x_4273 := ⟨_, rfl⟩
              rw [← ef_4274] at hP hD
              have hG := hG.trans (lt_eq ef_4274)
              obtain ⟨hP, hD⟩ := wl2 (ws' := [(oc7 oM iM_thrown rM_tape iM_taped iM_size iM_at iM_end iM_token iM_whole iM_nameSize iM_fault iM_place iM_trouble rM_letters iM_failed iM_hasCourt rM_r rM_fresh rM_told rM_read rM_st rM_undone rM_kept iM_undos iM_images rM_fresher iM_fresherSize iM_scale iM_night rM_heardRow rM_cutRow z_4254 z_4255 iM_allBreaths rM_trial rM_words iM_fewestBreaths z_4253 z_4256 z_4257 rM_often iM_setMany iM_someOf iM_allOf iM_allWeight iM_enoughWeight iM_worthSum iM_firstRest iM_leastDrawn), (arI rM_r kM_r 287 fM_r), (arI rM_told kM_told 90 fM_told), (arI rM_st kM_st 90 fM_st), (arI rM_heardRow kM_heardRow 400 f_4259), (arI rM_cutRow kM_cutRow 800 f_4260), (arI rM_trial kM_trial 90 f_4274)]) hP hD rfl
              refine lv_aload_n hx hb dX7_tryOrders_117 rfl (lv_at hl 1 rfl) ?_
              refine lv_iload_n hx hb dX7_tryOrders_118 rfl (lv_at hl 2 rfl) ?_
              refine lv_iload_n hx hb dX7_tryOrders_119 rfl (lv_at hl 3 rfl) ?_
              refine lv_iconst (v := 1) hx hb dX7_tryOrders_120 (by decide) ?_
              refine lv_iadd hx hb dX7_tryOrders_121 ?_
              refine lv_topi (fun x_4275 ex_4275 => ?_)
              obtain rfl : x_4275 = 1 := ex_4275.trans (by decide)
              refine lv_iload_n hx hb dX7_tryOrders_122 rfl (lv_at hl 4 rfl) ?_
              refine lv_iconst (v := 1) hx hb dX7_tryOrders_123 (by decide) ?_
              refine lv_iload hx hb dX7_tryOrders_124 (lv_at hl 0 rfl) ?_
              refine lv_ishl hx hb dX7_tryOrders_126 ?_
              refine lv_topi (fun x_4276 ex_4276 => ?_)
              have hG := hG.trans (lt_eq ex_4276)
              have qx_4276 := ti_shl ex_4276 rfl (by omega) (by omega)
              refine lv_ior hx hb dX7_tryOrders_127 ?_
              refine lv_topi (fun x_4277 ex_4277 => ?_)
              have hG := hG.trans (lt_eq ex_4277)
              have q_P := ti_cl (x := z_4252) rfl hi0_n_4261.1
              have ob9 := or_bit (u := p1) (p := z_4252) (v := x_4277) (x := x_4276) (by omega) (by omega) ex_4276 ex_4277
              have ob8 := ob9.1
              have cn9 : cntP (bitN x_4277) (fM_r (27 + p0.toNatClampNeg)).toInt.toNat = 1 := by rw [cnt_more (P := bitN p1) (p := z_4252.toNatClampNeg) (fM_r (27 + p0.toNatClampNeg)).toInt.toNat (by omega) hb9 (fun q hq => ob9.2 q (by omega)), hcn]
              have hq9 : x_4270.toNatClampNeg = 4 * p0.toNatClampNeg + 0 := by have q1 := ti_cl (x := x_4270) vx_4270 (om_707cdfc8 hk0.1); have q2 := ti_cl (x := p0) rfl hk0.1; omega
              have tr9 : TryOk fM_r fM_st f_4274 p0.toNatClampNeg 1 x_4277 := try_step (p := z_4252.toNatClampNeg) r_R r_st (by omega) htr hi1_n_4261 ef_4274 hq9 (by have q := cx_4273; omega) (by omega) (by decide) hb9 ob9.2
              have hFc := va_freeI hD hS hA
              refine va_callv (va_runV (As := [.int p0, .int 1, .int x_4277]) (rest := []) ⟨hx, hb, hml, hown, hts⟩ (tX7_try_1 l dC dI _ oM iM_thrown rM_tape iM_taped iM_size iM_at iM_end iM_token iM_whole iM_nameSize iM_fault iM_place iM_trouble rM_letters iM_failed iM_hasCourt rM_r fM_r kM_r rM_fresh rM_told fM_told kM_told rM_read rM_st fM_st kM_st rM_undone rM_kept iM_undos iM_images rM_fresher iM_fresherSize iM_scale iM_night rM_heardRow f_4259 kM_heardRow rM_cutRow f_4260 kM_cutRow z_4254 z_4255 iM_allBreaths rM_trial f_4274 kM_trial rM_words iM_fewestBreaths z_4253 z_4256 z_4257 rM_often iM_setMany iM_someOf iM_allOf iM_allWeight iM_enoughWeight iM_worthSum iM_firstRest iM_leastDrawn p0 x_4277 b_iM_taped b_iM_size b_iM_end b_iM_failed b_iM_hasCourt b_iM_undos b_iM_images b_iM_scale b_z_4254 b_z_4255 (by assumption) (by assumption) (by assumption) (by assumption) (by assumption) ⟨hk0.1, hk0.2⟩ ⟨hth.1, hth.2⟩ (om_7d6ce245 hi0_n_4261.1 cx_4263 gc_4264) (by first | assumption | (have q0 := kc_0; have q1 := kc_1; first | exact ⟨by omega, by omega⟩ | omega) | decide | (intro h; exact absurd h (by decide))) (by first | assumption | (have q0 := kc_0; have q1 := kc_1; first | exact ⟨by omega, by omega⟩ | omega) | decide | (intro h; exact absurd h (by decide))) (by first | assumption | (have q0 := kc_0; have q1 := kc_1; first | exact ⟨by omega, by omega⟩ | omega) | decide | (intro h; exact absurd h (by decide))) ⟨(om_11cc87cb hom.1 hi2_n_4261.1), (om_f6cbc066 hom.2 mn_p0.2 hi2_n_4261.2 cx_4263 gc_4264)⟩) (cwV 3 hts (wd_V wd_1071 wd_1072 wd_1073 wd_5 (wd_c wd_1074)) rfl rfl rfl (by decide +kernel) ⟨Nat.le_of_ble_eq_true rfl, Nat.le_of_ble_eq_true rfl⟩) ⟨Pw.fb, recvX7 hK hP (q0 := 0) rfl, fun U hU hW => Pw.to hP hD hK hE hS hFc hU hW⟩ rfl rfl hl.1 rfl (lv_room (Nat.le_of_ble_eq_true rfl)) dX7_tryOrders_128 ⟨Nat.le_of_ble_eq_true rfl, Nat.le_of_ble_eq_true rfl⟩) hS (fun q _ h => hFc q h) hFc (fun u t H locs ht hvm hw hB hz1 hk1 hS => ?_)
              refine ex_8_5 hB (fun x_4278 x_4279 x_4280 x_4281 x_4282 f_4283 f_4284 f_4285 b_x_4278 b_x_4279 e_x_4278_0 e_x_4278_1 e_x_4278_2 hB => ?_)
              obtain ⟨hP, hD⟩ := Bw.goA (ws' := [(oc7 oM iM_thrown rM_tape iM_taped iM_size iM_at iM_end iM_token iM_whole iM_nameSize iM_fault iM_place iM_trouble rM_letters iM_failed iM_hasCourt rM_r rM_fresh rM_told rM_read rM_st rM_undone rM_kept iM_undos iM_images rM_fresher iM_fresherSize iM_scale iM_night rM_heardRow rM_cutRow x_4278 x_4279 iM_allBreaths rM_trial rM_words iM_fewestBreaths x_4280 x_4281 x_4282 rM_often iM_setMany iM_someOf iM_allOf iM_allWeight iM_enoughWeight iM_worthSum iM_firstRest iM_leastDrawn), (arI rM_r kM_r 287 fM_r), (arI rM_told kM_told 90 fM_told), (arI rM_st kM_st 90 fM_st), (arI rM_heardRow kM_heardRow 400 f_4283), (arI rM_cutRow kM_cutRow 800 f_4284), (arI rM_trial kM_trial 90 f_4285)]) hB rfl ht hFc rfl
              clear hz1 hk1 hvm ht hB
              have kp9 : KeepI fM_trial p0.toNatClampNeg 0 f_4285 := keep_step hi1_n_4261 ef_4274 hq9 (by decide) (i' := 1) e_x_4278_1 rfl
              have hG := hG.trans (un8_eq e_x_4278_2)
              obtain ⟨x_4286, ex_4286⟩ : ∃ z : Int32, z = z_4252 + Int32.ofInt 1 := ⟨_, rfl⟩
              have hG := hG.trans (lt_eq ex_4286)
              have vx_4286 : x_4286.toInt = z_4252.toInt + 1 := ti_add (y := 1) ex_4286 rfl kc_1 (om_4e4fce7e hi0_n_4261.1) (om_d6392c09 mn_p0.2 hi0_n_4261.2)
              refine lv_iinc (v := x_4286) (lv' := [(4, .int x_4286), (0, .ref oM), (1, .int p0), (2, .int 0), (3, .int p1)]) hx hb dX7_tryOrders_131 hl (k := 0) rfl ex_4286.symm (by decide) rfl (fun ls hl => ?_)
              refine lv_goto (tgt := 70) hx hb dX7_tryOrders_134 (by decide) ?_
              exact ih_n_4261 x_4286 x_4280 x_4278 x_4279 x_4281 x_4282 f_4285 f_4283 f_4284 _ _ _ b_x_4278 b_x_4279 ⟨(om_83b90de5 hi0_n_4261.1 vx_4286), (om_1ad1f819 cx_4263 gc_4264 vx_4286)⟩ kp9 ⟨(om_a2451a67 hi2_n_4261.1 e_x_4278_0.1), (om_ae6154cf hi2_n_4261.2 e_x_4278_0.2 vx_4286)⟩ (Or.inl (by omega)) (ms_lt hm_n_4261 (om_dd4ae0bc vx_4286) (om_6d498008 cx_4263 gc_4264)) hG hP hD hS (lv_sub hl [0, 1, 2, 3, 4] rfl)
            · skip
              have hG := hG.trans (if_neg c_4268)
              have gc_4268 := ti_ne c_4268 rfl kc_0
              exfalso; clear hG; omega
    exact key_n_4261 ((((fM_r (27 + p0.toNatClampNeg)).toInt - (0 : Int32).toInt).toNat) + 1) 0 iM_orderMany iM_breaths iM_cutMany iM_orderSum iM_leastOrder fM_trial fM_heardRow fM_cutRow _ _ _ ⟨b_iM_breaths.1, b_iM_breaths.2⟩ ⟨b_iM_cutMany.1, b_iM_cutMany.2⟩ ⟨(om_b1de7dbe kc_0), (om_2dfe280d him kc_0)⟩ (by first | assumption | omega | decide | exact keep_refl | exact Or.inr (fun q hq => absurd hq (by have q0 := kc_0; omega))) ⟨om_1cb5f934, (om_6870ae9f kc_0)⟩ (by first | (have q0 := kc_0; have q1 := kc_1; omega) | decide | assumption | exact keep_refl | exact Or.inr (fun q hq => absurd hq (by have q0 := kc_0; omega))) (Nat.lt_add_one _) hG hP hD hS hl
  · skip
    have hG := hG.trans (if_pos c_4251)
    have gc_4251 := ti_eq c_4251 kc_0 rfl
    refine lv_aload_n hx hb dX7_tryOrders_13 rfl (lv_at hl 0 rfl) ?_
    refine lv_aload_n hx hb dX7_tryOrders_14 rfl (lv_at hl 0 rfl) ?_
    refine va_get (D := (dC, dI)) (ci := 7) (v := .ref rM_trial) (C := RX7) (T := TX7) (N := 48) hx hb hts inX7 hown hK hP 0 rfl rfl 33 (by decide) (hts _ wd_167) (fun _ h9 => h9) rfl dX7_tryOrders_15 ?_
    have hMs := ml_of hD [true, true, true, false, true, true, true] (wc := [(oc7 oM iM_thrown rM_tape iM_taped iM_size iM_at iM_end iM_token iM_whole iM_nameSize iM_fault iM_place iM_trouble rM_letters iM_failed iM_hasCourt rM_r rM_fresh rM_told rM_read rM_st rM_undone rM_kept iM_undos iM_images rM_fresher iM_fresherSize iM_scale iM_night rM_heardRow rM_cutRow iM_breaths iM_cutMany iM_allBreaths rM_trial rM_words iM_fewestBreaths iM_orderMany iM_orderSum iM_leastOrder rM_often iM_setMany iM_someOf iM_allOf iM_allWeight iM_enoughWeight iM_worthSum iM_firstRest iM_leastDrawn), (arI rM_r kM_r 287 fM_r), (arI rM_told kM_told 90 fM_told), (arI rM_heardRow kM_heardRow 400 fM_heardRow), (arI rM_cutRow kM_cutRow 800 fM_cutRow), (arI rM_trial kM_trial 90 fM_trial)]) rfl
    have hFc := va_freeM hD hS hA _ hMs
    refine va_calli (va_runV (As := [.ref rM_trial]) (rest := []) ⟨hx, hb, hml, hown, hts⟩ (tX7_breathsBy l dC dI _ oM iM_thrown rM_tape iM_taped iM_size iM_at iM_end iM_token iM_whole iM_nameSize iM_fault iM_place iM_trouble rM_letters iM_failed iM_hasCourt rM_r fM_r kM_r rM_fresh rM_told fM_told kM_told rM_read rM_st rM_undone rM_kept iM_undos iM_images rM_fresher iM_fresherSize iM_scale iM_night rM_heardRow fM_heardRow kM_heardRow rM_cutRow fM_cutRow kM_cutRow iM_breaths iM_cutMany iM_allBreaths rM_trial rM_words iM_fewestBreaths iM_orderMany iM_orderSum iM_leastOrder rM_often iM_setMany iM_someOf iM_allOf iM_allWeight iM_enoughWeight iM_worthSum iM_firstRest iM_leastDrawn rM_trial fM_trial kM_trial b_iM_taped b_iM_size b_iM_end b_iM_failed b_iM_hasCourt b_iM_undos b_iM_images b_iM_scale b_iM_breaths b_iM_cutMany (by assumption) (by assumption) (by assumption) (by first | assumption | exact rowt (by omega)) ⟨hth.1, hth.2⟩) (cwV 1 hts (wd_V wd_769 wd_770 wd_771 wd_5 (wd_c wd_772)) rfl rfl rfl dv_yX7_breathsBy_1 ⟨Nat.le_of_ble_eq_true rfl, Nat.le_of_ble_eq_true rfl⟩) ⟨Pw.fb, recvX7 hK hP (q0 := 0) rfl, fun U hU hW => Pw.to (hP.ms _ hMs) (hD.ms _ hMs) (hK.ms [true, true, false, true, true, true] rfl) hE hS hFc hU hW⟩ rfl rfl hl.1 rfl (lv_room (Nat.le_of_ble_eq_true rfl)) dX7_tryOrders_18 ⟨Nat.le_of_ble_eq_true rfl, Nat.le_of_ble_eq_true rfl⟩) hS (fun q _ h => hFc q h) hFc (fun r u t H locs ht hvm hw hB hz1 hk1 hS => ?_)
    have hru9 := hw.2
    have hw := hw.1
    refine ex_4_3 hB (fun x_4287 x_4288 f_4289 f_4290 b_x_4287 b_x_4288 e_x_4287_0 hB => ?_)
    obtain ⟨hP, hD⟩ := Bw.goN (ws' := [(oc7 oM iM_thrown rM_tape iM_taped iM_size iM_at iM_end iM_token iM_whole iM_nameSize iM_fault iM_place iM_trouble rM_letters iM_failed iM_hasCourt rM_r rM_fresh rM_told rM_read rM_st rM_undone rM_kept iM_undos iM_images rM_fresher iM_fresherSize iM_scale iM_night rM_heardRow rM_cutRow x_4287 x_4288 iM_allBreaths rM_trial rM_words iM_fewestBreaths iM_orderMany iM_orderSum iM_leastOrder rM_often iM_setMany iM_someOf iM_allOf iM_allWeight iM_enoughWeight iM_worthSum iM_firstRest iM_leastDrawn), (arI rM_r kM_r 287 fM_r), (arI rM_told kM_told 90 fM_told), (arI rM_st kM_st 90 fM_st), (arI rM_heardRow kM_heardRow 400 f_4289), (arI rM_cutRow kM_cutRow 800 f_4290), (arI rM_trial kM_trial 90 fM_trial)]) hB rfl ht hP hD _ hMs hk1 hFc rfl
    clear hz1 hk1 hvm ht hB hMs
    rw [← hru9] at e_x_4287_0
    obtain ⟨x_4291, rfl⟩ : ∃ z, z = r := ⟨_, rfl⟩
    have hG := hG.trans (un5_eq e_x_4287_0)
    have ux_4291 := hw.2
    refine lv_istore (lv' := [(4, .int x_4291), (0, .ref oM), (1, .int p0), (2, .int 0), (3, .int p1)]) hx hb dX7_tryOrders_21 hl (by decide) rfl (fun ls hl => ?_)
    refine lv_aload_n hx hb dX7_tryOrders_23 rfl (lv_at hl 1 rfl) ?_
    refine lv_dup hx hb dX7_tryOrders_24 rfl ?_
    refine va_get (D := (dC, dI)) (ci := 7) (v := .int iM_orderMany) (C := RX7) (T := TX7) (N := 48) hx hb hts inX7 hown hK hP 0 rfl rfl 36 (by decide) (hts _ wd_1065) (fun _ h9 => h9) rfl dX7_tryOrders_25 ?_
    refine lv_iconst (v := 1) hx hb dX7_tryOrders_28 (by decide) ?_
    refine lv_iadd hx hb dX7_tryOrders_29 ?_
    refine lv_topi (fun x_4292 ex_4292 => ?_)
    have hG := hG.trans (lt_eq ex_4292)
    have vx_4292 : x_4292.toInt = iM_orderMany.toInt + 1 := ti_add ex_4292 rfl kc_1 (om_4e4fce7e hom.1) (om_40732203 hom.2)
    refine va_put (D := (dC, dI)) (ci := 7) (v := .int x_4292) (ty := .int) (C := RX7) (T := TX7) (N := 48) hx hb hts inX7 tyX7 tyX7_ok nmX7 hown hK hP hD hS 0 rfl rfl 36 (by decide) (hts _ wd_1065) (fun _ h9 => h9) rfl (by decide +kernel) rfl rfl (Nat.le_of_ble_eq_true rfl) dX7_tryOrders_30 (fun H locs hP hD hS => ?_)
    obtain ⟨hP, hD⟩ := wl2 (ws' := [(oc7 oM iM_thrown rM_tape iM_taped iM_size iM_at iM_end iM_token iM_whole iM_nameSize iM_fault iM_place iM_trouble rM_letters iM_failed iM_hasCourt rM_r rM_fresh rM_told rM_read rM_st rM_undone rM_kept iM_undos iM_images rM_fresher iM_fresherSize iM_scale iM_night rM_heardRow rM_cutRow x_4287 x_4288 iM_allBreaths rM_trial rM_words iM_fewestBreaths x_4292 iM_orderSum iM_leastOrder rM_often iM_setMany iM_someOf iM_allOf iM_allWeight iM_enoughWeight iM_worthSum iM_firstRest iM_leastDrawn), (arI rM_r kM_r 287 fM_r), (arI rM_told kM_told 90 fM_told), (arI rM_st kM_st 90 fM_st), (arI rM_heardRow kM_heardRow 400 f_4289), (arI rM_cutRow kM_cutRow 800 f_4290), (arI rM_trial kM_trial 90 fM_trial)]) hP hD rfl
    refine lv_aload_n hx hb dX7_tryOrders_33 rfl (lv_at hl 1 rfl) ?_
    refine lv_dup hx hb dX7_tryOrders_34 rfl ?_
    refine va_get (D := (dC, dI)) (ci := 7) (v := .int iM_orderSum) (C := RX7) (T := TX7) (N := 48) hx hb hts inX7 hown hK hP 0 rfl rfl 37 (by decide) (hts _ wd_1064) (fun _ h9 => h9) rfl dX7_tryOrders_35 ?_
    refine lv_iload hx hb dX7_tryOrders_38 (lv_at hl 0 rfl) ?_
    refine lv_iadd hx hb dX7_tryOrders_40 ?_
    refine lv_topi (fun x_4293 ex_4293 => ?_)
    have hG := hG.trans (lt_eq ex_4293)
    refine va_put (D := (dC, dI)) (ci := 7) (v := .int x_4293) (ty := .int) (C := RX7) (T := TX7) (N := 48) hx hb hts inX7 tyX7 tyX7_ok nmX7 hown hK hP hD hS 0 rfl rfl 37 (by decide) (hts _ wd_1064) (fun _ h9 => h9) rfl (by decide +kernel) rfl rfl (Nat.le_of_ble_eq_true rfl) dX7_tryOrders_41 (fun H locs hP hD hS => ?_)
    obtain ⟨hP, hD⟩ := wl2 (ws' := [(oc7 oM iM_thrown rM_tape iM_taped iM_size iM_at iM_end iM_token iM_whole iM_nameSize iM_fault iM_place iM_trouble rM_letters iM_failed iM_hasCourt rM_r rM_fresh rM_told rM_read rM_st rM_undone rM_kept iM_undos iM_images rM_fresher iM_fresherSize iM_scale iM_night rM_heardRow rM_cutRow x_4287 x_4288 iM_allBreaths rM_trial rM_words iM_fewestBreaths x_4292 x_4293 iM_leastOrder rM_often iM_setMany iM_someOf iM_allOf iM_allWeight iM_enoughWeight iM_worthSum iM_firstRest iM_leastDrawn), (arI rM_r kM_r 287 fM_r), (arI rM_told kM_told 90 fM_told), (arI rM_st kM_st 90 fM_st), (arI rM_heardRow kM_heardRow 400 f_4289), (arI rM_cutRow kM_cutRow 800 f_4290), (arI rM_trial kM_trial 90 fM_trial)]) hP hD rfl
    refine lv_aload_n hx hb dX7_tryOrders_44 rfl (lv_at hl 1 rfl) ?_
    refine lv_iload hx hb dX7_tryOrders_45 (lv_at hl 0 rfl) ?_
    refine lv_aload_n hx hb dX7_tryOrders_47 rfl (lv_at hl 1 rfl) ?_
    refine va_get (D := (dC, dI)) (ci := 7) (v := .int iM_leastOrder) (C := RX7) (T := TX7) (N := 48) hx hb hts inX7 hown hK hP 0 rfl rfl 38 (by decide) (hts _ wd_1070) (fun _ h9 => h9) rfl dX7_tryOrders_48 ?_
    refine lv_icmp_ge (tgt := 59) hx hb dX7_tryOrders_51 (by decide) (fun c_4294 => ?_) (fun c_4294 => ?_)
    · skip
      have hG := hG.trans (if_pos c_4294)
      have gc_4294 := ti_le c_4294 rfl rfl
      refine lv_aload_n hx hb dX7_tryOrders_59 rfl (lv_at hl 1 rfl) ?_
      refine va_get (D := (dC, dI)) (ci := 7) (v := .int iM_leastOrder) (C := RX7) (T := TX7) (N := 48) hx hb hts inX7 hown hK hP 0 rfl rfl 38 (by decide) (hts _ wd_1070) (fun _ h9 => h9) rfl dX7_tryOrders_60 ?_
      refine va_put (D := (dC, dI)) (ci := 7) (v := .int iM_leastOrder) (ty := .int) (C := RX7) (T := TX7) (N := 48) hx hb hts inX7 tyX7 tyX7_ok nmX7 hown hK hP hD hS 0 rfl rfl 38 (by decide) (hts _ wd_1070) (fun _ h9 => h9) rfl (by decide +kernel) rfl rfl (Nat.le_of_ble_eq_true rfl) dX7_tryOrders_63 (fun H locs hP hD hS => ?_)
      obtain ⟨hP, hD⟩ := wl2 (ws' := [(oc7 oM iM_thrown rM_tape iM_taped iM_size iM_at iM_end iM_token iM_whole iM_nameSize iM_fault iM_place iM_trouble rM_letters iM_failed iM_hasCourt rM_r rM_fresh rM_told rM_read rM_st rM_undone rM_kept iM_undos iM_images rM_fresher iM_fresherSize iM_scale iM_night rM_heardRow rM_cutRow x_4287 x_4288 iM_allBreaths rM_trial rM_words iM_fewestBreaths x_4292 x_4293 iM_leastOrder rM_often iM_setMany iM_someOf iM_allOf iM_allWeight iM_enoughWeight iM_worthSum iM_firstRest iM_leastDrawn), (arI rM_r kM_r 287 fM_r), (arI rM_told kM_told 90 fM_told), (arI rM_st kM_st 90 fM_st), (arI rM_heardRow kM_heardRow 400 f_4289), (arI rM_cutRow kM_cutRow 800 f_4290), (arI rM_trial kM_trial 90 fM_trial)]) hP hD rfl
      exact wq_v hx hb hr 0 trivial (fun t ht hW => ⟨x_4287, x_4288, x_4292, x_4293, iM_leastOrder, f_4289, f_4290, fM_trial, b_x_4287, b_x_4288, ⟨(om_25096cef vx_4292), (om_cecd783f vx_4292)⟩, keep_refl, hG, Bw.to hP hD hK ht hW⟩) hS dX7_tryOrders_66 hlocks
    · skip
      have hG := hG.trans (if_neg c_4294)
      have gc_4294 := ti_nle c_4294 rfl rfl
      refine lv_iload hx hb dX7_tryOrders_54 (lv_at hl 0 rfl) ?_
      refine lv_goto (tgt := 63) hx hb dX7_tryOrders_56 (by decide) ?_
      refine va_put (D := (dC, dI)) (ci := 7) (v := .int x_4291) (ty := .int) (C := RX7) (T := TX7) (N := 48) hx hb hts inX7 tyX7 tyX7_ok nmX7 hown hK hP hD hS 0 rfl rfl 38 (by decide) (hts _ wd_1070) (fun _ h9 => h9) rfl (by decide +kernel) rfl rfl (Nat.le_of_ble_eq_true rfl) dX7_tryOrders_63 (fun H locs hP hD hS => ?_)
      obtain ⟨hP, hD⟩ := wl2 (ws' := [(oc7 oM iM_thrown rM_tape iM_taped iM_size iM_at iM_end iM_token iM_whole iM_nameSize iM_fault iM_place iM_trouble rM_letters iM_failed iM_hasCourt rM_r rM_fresh rM_told rM_read rM_st rM_undone rM_kept iM_undos iM_images rM_fresher iM_fresherSize iM_scale iM_night rM_heardRow rM_cutRow x_4287 x_4288 iM_allBreaths rM_trial rM_words iM_fewestBreaths x_4292 x_4293 x_4291 rM_often iM_setMany iM_someOf iM_allOf iM_allWeight iM_enoughWeight iM_worthSum iM_firstRest iM_leastDrawn), (arI rM_r kM_r 287 fM_r), (arI rM_told kM_told 90 fM_told), (arI rM_st kM_st 90 fM_st), (arI rM_heardRow kM_heardRow 400 f_4289), (arI rM_cutRow kM_cutRow 800 f_4290), (arI rM_trial kM_trial 90 fM_trial)]) hP hD rfl
      exact wq_v hx hb hr 0 trivial (fun t ht hW => ⟨x_4287, x_4288, x_4292, x_4293, x_4291, f_4289, f_4290, fM_trial, b_x_4287, b_x_4288, ⟨(om_25096cef vx_4292), (om_cecd783f vx_4292)⟩, keep_refl, hG, Bw.to hP hD hK ht hW⟩) hS dX7_tryOrders_66 hlocks
set_option maxHeartbeats 4000000 in
set_option maxRecDepth 100000 in
theorem tX7_seekOrders (l : Launch) (dC : Nat → ClassId) (dI : Nat → Nat → Nat) (sz : Nat) (oM : Nat) (iM_thrown : Int32) (rM_tape : Nat) (iM_taped : Int32) (iM_size : Int32) (iM_at : Int32) (iM_end : Int32) (iM_token : Int32) (iM_whole : Int32) (iM_nameSize : Int32) (iM_fault : Int32) (iM_place : Int32) (iM_trouble : Int32) (rM_letters : Nat) (iM_failed : Int32) (iM_hasCourt : Int32) (rM_r : Nat) (fM_r : Nat → Int32) (kM_r : ClassId) (rM_fresh : Nat) (rM_told : Nat) (fM_told : Nat → Int32) (kM_told : ClassId) (rM_read : Nat) (rM_st : Nat) (fM_st : Nat → Int32) (kM_st : ClassId) (rM_undone : Nat) (rM_kept : Nat) (iM_undos : Int32) (iM_images : Int32) (rM_fresher : Nat) (iM_fresherSize : Int32) (iM_scale : Int32) (iM_night : Int32) (rM_heardRow : Nat) (fM_heardRow : Nat → Int32) (kM_heardRow : ClassId) (rM_cutRow : Nat) (fM_cutRow : Nat → Int32) (kM_cutRow : ClassId) (iM_breaths : Int32) (iM_cutMany : Int32) (iM_allBreaths : Int32) (rM_trial : Nat) (fM_trial : Nat → Int32) (kM_trial : ClassId) (rM_words : Nat) (iM_fewestBreaths : Int32) (iM_orderMany : Int32) (iM_orderSum : Int32) (iM_leastOrder : Int32) (rM_often : Nat) (iM_setMany : Int32) (iM_someOf : Int32) (iM_allOf : Int32) (iM_allWeight : Int64) (iM_enoughWeight : Int64) (iM_worthSum : Int64) (iM_firstRest : Int32) (iM_leastDrawn : Int32) (p0 : Int32) (b_iM_taped : 0 ≤ iM_taped.toInt ∧ iM_taped.toInt ≤ 900) (b_iM_size : 0 ≤ iM_size.toInt ∧ iM_size.toInt ≤ 900) (b_iM_end : 0 ≤ iM_end.toInt ∧ iM_end.toInt ≤ 900) (b_iM_failed : 0 ≤ iM_failed.toInt ∧ iM_failed.toInt ≤ 1) (b_iM_hasCourt : 0 ≤ iM_hasCourt.toInt ∧ iM_hasCourt.toInt ≤ 1) (b_iM_undos : 0 ≤ iM_undos.toInt ∧ iM_undos.toInt ≤ 16) (b_iM_images : 0 ≤ iM_images.toInt ∧ iM_images.toInt ≤ 3) (b_iM_scale : 1 ≤ iM_scale.toInt ∧ iM_scale.toInt ≤ 1296) (b_iM_breaths : 0 ≤ iM_breaths.toInt ∧ iM_breaths.toInt ≤ 399) (b_iM_cutMany : 0 ≤ iM_cutMany.toInt ∧ iM_cutMany.toInt ≤ 399) (r_R : ROk fM_r) (r_C : iM_hasCourt.toInt ≤ 0 ∨ (1 ≤ (fM_r 1).toInt ∧ 0 ≤ (fM_r 6).toInt ∧ (fM_r 6).toInt < (fM_r 1).toInt)) (r_st : RowOk fM_r fM_st) (r_told : RowOk fM_r fM_told) (r_wst : WorOk fM_st) (hk0 : 0 ≤ p0.toInt ∧ p0.toInt < (fM_r 1).toInt) (hth : 0 ≤ (fM_r 6).toInt ∧ (fM_r 6).toInt < (fM_r 1).toInt) : Met l yX7_seekOrders (Cond.code yX7_seekOrders cX7_seekOrders 2 none :: wG) ({ frames := 27, cells := 0, slots := 0, locals := 744 }) (va_Pc [.ref oM, .int p0] (Pw dC dI sz [(oc7 oM iM_thrown rM_tape iM_taped iM_size iM_at iM_end iM_token iM_whole iM_nameSize iM_fault iM_place iM_trouble rM_letters iM_failed iM_hasCourt rM_r rM_fresh rM_told rM_read rM_st rM_undone rM_kept iM_undos iM_images rM_fresher iM_fresherSize iM_scale iM_night rM_heardRow rM_cutRow iM_breaths iM_cutMany iM_allBreaths rM_trial rM_words iM_fewestBreaths iM_orderMany iM_orderSum iM_leastOrder rM_often iM_setMany iM_someOf iM_allOf iM_allWeight iM_enoughWeight iM_worthSum iM_firstRest iM_leastDrawn), (arI rM_r kM_r 287 fM_r), (arI rM_told kM_told 90 fM_told), (arI rM_st kM_st 90 fM_st), (arI rM_heardRow kM_heardRow 400 fM_heardRow), (arI rM_cutRow kM_cutRow 800 fM_cutRow), (arI rM_trial kM_trial 90 fM_trial)] [(kM_r, .int), (kM_told, .int), (kM_st, .int), (kM_heardRow, .int), (kM_cutRow, .int), (kM_trial, .int)])) (va_Qv (fun (_ : Nat) => True) (fun (_ : Nat) (t : State) => ∃ (niM_breaths : Int32) (niM_cutMany : Int32) (niM_orderMany : Int32) (niM_orderSum : Int32) (niM_leastOrder : Int32) (nfM_heardRow : Nat → Int32) (nfM_cutRow : Nat → Int32) (nfM_trial : Nat → Int32), (0 ≤ niM_breaths.toInt ∧ niM_breaths.toInt ≤ 399) ∧ (0 ≤ niM_cutMany.toInt ∧ niM_cutMany.toInt ≤ 399) ∧ (1 ≤ niM_orderMany.toInt ∧ niM_orderMany.toInt ≤ 256) ∧ (PX7_seekOrders fM_r fM_told fM_st iM_scale fM_heardRow fM_cutRow iM_breaths iM_cutMany fM_trial p0 = (niM_breaths, niM_cutMany, niM_orderMany, niM_orderSum, niM_leastOrder, nfM_heardRow, nfM_cutRow, nfM_trial)) ∧ Bw dC dI (va_A [(oc7 oM iM_thrown rM_tape iM_taped iM_size iM_at iM_end iM_token iM_whole iM_nameSize iM_fault iM_place iM_trouble rM_letters iM_failed iM_hasCourt rM_r rM_fresh rM_told rM_read rM_st rM_undone rM_kept iM_undos iM_images rM_fresher iM_fresherSize iM_scale iM_night rM_heardRow rM_cutRow iM_breaths iM_cutMany iM_allBreaths rM_trial rM_words iM_fewestBreaths iM_orderMany iM_orderSum iM_leastOrder rM_often iM_setMany iM_someOf iM_allOf iM_allWeight iM_enoughWeight iM_worthSum iM_firstRest iM_leastDrawn), (arI rM_r kM_r 287 fM_r), (arI rM_told kM_told 90 fM_told), (arI rM_st kM_st 90 fM_st), (arI rM_heardRow kM_heardRow 400 fM_heardRow), (arI rM_cutRow kM_cutRow 800 fM_cutRow), (arI rM_trial kM_trial 90 fM_trial)] sz) [(oc7 oM iM_thrown rM_tape iM_taped iM_size iM_at iM_end iM_token iM_whole iM_nameSize iM_fault iM_place iM_trouble rM_letters iM_failed iM_hasCourt rM_r rM_fresh rM_told rM_read rM_st rM_undone rM_kept iM_undos iM_images rM_fresher iM_fresherSize iM_scale iM_night rM_heardRow rM_cutRow niM_breaths niM_cutMany iM_allBreaths rM_trial rM_words iM_fewestBreaths niM_orderMany niM_orderSum niM_leastOrder rM_often iM_setMany iM_someOf iM_allOf iM_allWeight iM_enoughWeight iM_worthSum iM_firstRest iM_leastDrawn), (arI rM_r kM_r 287 fM_r), (arI rM_told kM_told 90 fM_told), (arI rM_st kM_st 90 fM_st), (arI rM_heardRow kM_heardRow 400 nfM_heardRow), (arI rM_cutRow kM_cutRow 800 nfM_cutRow), (arI rM_trial kM_trial 90 nfM_trial)] [(kM_r, .int), (kM_told, .int), (kM_st, .int), (kM_heardRow, .int), (kM_cutRow, .int), (kM_trial, .int)] t) (va_A [(oc7 oM iM_thrown rM_tape iM_taped iM_size iM_at iM_end iM_token iM_whole iM_nameSize iM_fault iM_place iM_trouble rM_letters iM_failed iM_hasCourt rM_r rM_fresh rM_told rM_read rM_st rM_undone rM_kept iM_undos iM_images rM_fresher iM_fresherSize iM_scale iM_night rM_heardRow rM_cutRow iM_breaths iM_cutMany iM_allBreaths rM_trial rM_words iM_fewestBreaths iM_orderMany iM_orderSum iM_leastOrder rM_often iM_setMany iM_someOf iM_allOf iM_allWeight iM_enoughWeight iM_worthSum iM_firstRest iM_leastDrawn), (arI rM_r kM_r 287 fM_r), (arI rM_told kM_told 90 fM_told), (arI rM_st kM_st 90 fM_st), (arI rM_heardRow kM_heardRow 400 fM_heardRow), (arI rM_cutRow kM_cutRow 800 fM_cutRow), (arI rM_trial kM_trial 90 fM_trial)] sz)) 0 0 (va_A [(oc7 oM iM_thrown rM_tape iM_taped iM_size iM_at iM_end iM_token iM_whole iM_nameSize iM_fault iM_place iM_trouble rM_letters iM_failed iM_hasCourt rM_r rM_fresh rM_told rM_read rM_st rM_undone rM_kept iM_undos iM_images rM_fresher iM_fresherSize iM_scale iM_night rM_heardRow rM_cutRow iM_breaths iM_cutMany iM_allBreaths rM_trial rM_words iM_fewestBreaths iM_orderMany iM_orderSum iM_leastOrder rM_often iM_setMany iM_someOf iM_allOf iM_allWeight iM_enoughWeight iM_worthSum iM_firstRest iM_leastDrawn), (arI rM_r kM_r 287 fM_r), (arI rM_told kM_told 90 fM_told), (arI rM_st kM_st 90 fM_st), (arI rM_heardRow kM_heardRow 400 fM_heardRow), (arI rM_cutRow kM_cutRow 800 fM_cutRow), (arI rM_trial kM_trial 90 fM_trial)] sz) := by
  refine Met.ofW (cc := cX7_seekOrders) (maxL := 2) (ret := none) pnX7 rfl ?_
  intro p e s m args below meth c s₁ B hml hv
  obtain ⟨rfl, hsz, hP, hK, hD0, hE⟩ := hv
  have hx := B.exec
  have hb := B.bytes
  have hr := B.returns
  have hts : ∀ w ∈ wG, w.before ([.ref oM, .int p0] : List Value).toArray s = true := fun w h => atoms_spec (ws := Cond.code yX7_seekOrders cX7_seekOrders 2 none :: wG) B.pre w (List.mem_cons_of_mem _ h)
  have hown : s.vm.findClass RX7 = some m.cls := own_of B.named rfl
  have hlocks := B.notSynchronized
  subst hsz
  have hD := hD0.self (sz := s.heap.size)
  generalize hAe : va_A [(oc7 oM iM_thrown rM_tape iM_taped iM_size iM_at iM_end iM_token iM_whole iM_nameSize iM_fault iM_place iM_trouble rM_letters iM_failed iM_hasCourt rM_r rM_fresh rM_told rM_read rM_st rM_undone rM_kept iM_undos iM_images rM_fresher iM_fresherSize iM_scale iM_night rM_heardRow rM_cutRow iM_breaths iM_cutMany iM_allBreaths rM_trial rM_words iM_fewestBreaths iM_orderMany iM_orderSum iM_leastOrder rM_often iM_setMany iM_someOf iM_allOf iM_allWeight iM_enoughWeight iM_worthSum iM_firstRest iM_leastDrawn), (arI rM_r kM_r 287 fM_r), (arI rM_told kM_told 90 fM_told), (arI rM_st kM_st 90 fM_st), (arI rM_heardRow kM_heardRow 400 fM_heardRow), (arI rM_cutRow kM_cutRow 800 fM_cutRow), (arI rM_trial kM_trial 90 fM_trial)] s.heap.size = A at hD hE ⊢
  have hA : ∀ q : Nat, s.heap.size ≤ q → A q := fun q h => by rw [← hAe]; exact Or.inr h
  have hS : va_S A s.heap s.heap [] := va_S.rf
  have hl := lv_entry ([.ref oM, .int p0]) (n := 2) (Nat.le_of_ble_eq_true rfl)
  rw [lg_entry_eq]
  generalize (lg_sl ([.ref oM, .int p0]) ++ List.replicate (2 - (lg_sl ([.ref oM, .int p0])).length) Slot.unset).toArray = ls at hl ⊢
  have hl : lv_has ls 2 [(0, .ref oM), (1, .int p0)] := hl
  have hG := PX7_seekOrders_eq fM_r fM_told fM_st iM_scale fM_heardRow fM_cutRow iM_breaths iM_cutMany fM_trial p0
  have s_slips := r_R.slips
  have s_nodes := r_R.nodes
  have s_uns := r_R.uns
  have q_p0 := ti_cl (x := p0) rfl hk0.1
  have mn_p0 := r_R.many (27 + p0.toNatClampNeg) (Nat.le_add_right _ _) (om_6c263690 (ti_cl (x := p0) rfl hk0.1) hk0.2 s_nodes.2)
  have kn_p0 := r_R.kind (9 + p0.toNatClampNeg) (Nat.le_add_right _ _) (om_57ce868b (ti_cl (x := p0) rfl hk0.1) hk0.2 s_nodes.2)
  have in_p0 := r_R.inner p0.toNatClampNeg (om_05d4ad0a (ti_cl (x := p0) rfl hk0.1) hk0.2)
  refine lv_aload_n hx hb dX7_seekOrders_0 rfl (lv_at hl 0 rfl) ?_
  refine va_get (D := (dC, dI)) (ci := 7) (v := .ref rM_st) (C := RX7) (T := TX7) (N := 48) hx hb hts inX7 hown hK hP 0 rfl rfl 19 (by decide) (hts _ wd_159) (fun _ h9 => h9) rfl dX7_seekOrders_1 ?_
  refine lv_iconst (v := 0) hx hb dX7_seekOrders_4 (by decide) ?_
  refine lv_aload_n hx hb dX7_seekOrders_5 rfl (lv_at hl 0 rfl) ?_
  refine va_get (D := (dC, dI)) (ci := 7) (v := .ref rM_trial) (C := RX7) (T := TX7) (N := 48) hx hb hts inX7 hown hK hP 0 rfl rfl 33 (by decide) (hts _ wd_167) (fun _ h9 => h9) rfl dX7_seekOrders_6 ?_
  refine lv_iconst (v := 0) hx hb dX7_seekOrders_9 (by decide) ?_
  refine lv_bipush (v := 90) hx hb dX7_seekOrders_10 (by decide) ?_
  have hMs := ml_of hD [false, false, false, true, false, false, true] (wc := [(arI rM_st kM_st 90 fM_st), (arI rM_trial kM_trial 90 fM_trial)]) rfl
  have hFc := va_freeM hD hS hA _ hMs
  refine va_callv (va_runS (As := [.ref rM_st, .int 0, .ref rM_trial, .int 0, .int 90]) (rest := []) ⟨hx, hb, hml, hown, hts⟩ (tX7_copy_90_90 l dC dI _ rM_st fM_st kM_st rM_trial fM_trial kM_trial 0 0 90 ⟨(om_b1de7dbe kc_0), (om_b1de7dbe kc_0), (om_34f60646 kc_90)⟩ (om_3b9d1022 kc_0 kc_90) (om_3b9d1022 kc_0 kc_90)) (va_cwS 5 hts (wd_S wd_475 wd_476 wd_5 (wd_c wd_477)) rfl rfl rfl ds_yX7_copy_5 ⟨Nat.le_of_ble_eq_true rfl, Nat.le_of_ble_eq_true rfl⟩) ⟨Pw.fb, fun U hU hW => Pw.to (hP.ms _ hMs) (hD.ms _ hMs) (hK.ms [false, false, true, false, false, true] rfl) hE hS hFc hU hW⟩ rfl rfl hl.1 rfl (lv_room (Nat.le_of_ble_eq_true rfl)) dX7_seekOrders_12 ⟨Nat.le_of_ble_eq_true rfl, Nat.le_of_ble_eq_true rfl⟩) hS (fun q _ h => hFc q h) hFc (fun u t H locs ht hvm hw hB hz1 hk1 hS => ?_)
  refine ex_1_1 hB (fun f_4304 e_f_4304_0 hB => ?_)
  obtain ⟨hP, hD⟩ := Bw.goN (ws' := [(oc7 oM iM_thrown rM_tape iM_taped iM_size iM_at iM_end iM_token iM_whole iM_nameSize iM_fault iM_place iM_trouble rM_letters iM_failed iM_hasCourt rM_r rM_fresh rM_told rM_read rM_st rM_undone rM_kept iM_undos iM_images rM_fresher iM_fresherSize iM_scale iM_night rM_heardRow rM_cutRow iM_breaths iM_cutMany iM_allBreaths rM_trial rM_words iM_fewestBreaths iM_orderMany iM_orderSum iM_leastOrder rM_often iM_setMany iM_someOf iM_allOf iM_allWeight iM_enoughWeight iM_worthSum iM_firstRest iM_leastDrawn), (arI rM_r kM_r 287 fM_r), (arI rM_told kM_told 90 fM_told), (arI rM_st kM_st 90 fM_st), (arI rM_heardRow kM_heardRow 400 fM_heardRow), (arI rM_cutRow kM_cutRow 800 fM_cutRow), (arI rM_trial kM_trial 90 f_4304)]) hB rfl ht hP hD _ hMs hk1 hFc rfl
  clear hz1 hk1 hvm ht hB hMs
  have r_f_4304 : RowOk fM_r f_4304 := RowOk.copy r_R r_st e_f_4304_0
  have hG := hG.trans (lt_eq (CopyOk.fn e_f_4304_0).symm)
  refine lv_aload_n hx hb dX7_seekOrders_15 rfl (lv_at hl 0 rfl) ?_
  refine lv_iconst (v := 0) hx hb dX7_seekOrders_16 (by decide) ?_
  refine va_put (D := (dC, dI)) (ci := 7) (v := .int 0) (ty := .int) (C := RX7) (T := TX7) (N := 48) hx hb hts inX7 tyX7 tyX7_ok nmX7 hown hK hP hD hS 0 rfl rfl 36 (by decide) (hts _ wd_1065) (fun _ h9 => h9) rfl (by decide +kernel) rfl rfl (Nat.le_of_ble_eq_true rfl) dX7_seekOrders_17 (fun H locs hP hD hS => ?_)
  obtain ⟨hP, hD⟩ := wl2 (ws' := [(oc7 oM iM_thrown rM_tape iM_taped iM_size iM_at iM_end iM_token iM_whole iM_nameSize iM_fault iM_place iM_trouble rM_letters iM_failed iM_hasCourt rM_r rM_fresh rM_told rM_read rM_st rM_undone rM_kept iM_undos iM_images rM_fresher iM_fresherSize iM_scale iM_night rM_heardRow rM_cutRow iM_breaths iM_cutMany iM_allBreaths rM_trial rM_words iM_fewestBreaths 0 iM_orderSum iM_leastOrder rM_often iM_setMany iM_someOf iM_allOf iM_allWeight iM_enoughWeight iM_worthSum iM_firstRest iM_leastDrawn), (arI rM_r kM_r 287 fM_r), (arI rM_told kM_told 90 fM_told), (arI rM_st kM_st 90 fM_st), (arI rM_heardRow kM_heardRow 400 fM_heardRow), (arI rM_cutRow kM_cutRow 800 fM_cutRow), (arI rM_trial kM_trial 90 f_4304)]) hP hD rfl
  refine lv_aload_n hx hb dX7_seekOrders_20 rfl (lv_at hl 0 rfl) ?_
  refine lv_iconst (v := 0) hx hb dX7_seekOrders_21 (by decide) ?_
  refine va_put (D := (dC, dI)) (ci := 7) (v := .int 0) (ty := .int) (C := RX7) (T := TX7) (N := 48) hx hb hts inX7 tyX7 tyX7_ok nmX7 hown hK hP hD hS 0 rfl rfl 37 (by decide) (hts _ wd_1064) (fun _ h9 => h9) rfl (by decide +kernel) rfl rfl (Nat.le_of_ble_eq_true rfl) dX7_seekOrders_22 (fun H locs hP hD hS => ?_)
  obtain ⟨hP, hD⟩ := wl2 (ws' := [(oc7 oM iM_thrown rM_tape iM_taped iM_size iM_at iM_end iM_token iM_whole iM_nameSize iM_fault iM_place iM_trouble rM_letters iM_failed iM_hasCourt rM_r rM_fresh rM_told rM_read rM_st rM_undone rM_kept iM_undos iM_images rM_fresher iM_fresherSize iM_scale iM_night rM_heardRow rM_cutRow iM_breaths iM_cutMany iM_allBreaths rM_trial rM_words iM_fewestBreaths 0 0 iM_leastOrder rM_often iM_setMany iM_someOf iM_allOf iM_allWeight iM_enoughWeight iM_worthSum iM_firstRest iM_leastDrawn), (arI rM_r kM_r 287 fM_r), (arI rM_told kM_told 90 fM_told), (arI rM_st kM_st 90 fM_st), (arI rM_heardRow kM_heardRow 400 fM_heardRow), (arI rM_cutRow kM_cutRow 800 fM_cutRow), (arI rM_trial kM_trial 90 f_4304)]) hP hD rfl
  refine lv_aload_n hx hb dX7_seekOrders_25 rfl (lv_at hl 0 rfl) ?_
  refine lv_ldc hx hb hown (hts _ wd_653) dX7_seekOrders_26 ?_
  refine va_put (D := (dC, dI)) (ci := 7) (v := .int 100000000) (ty := .int) (C := RX7) (T := TX7) (N := 48) hx hb hts inX7 tyX7 tyX7_ok nmX7 hown hK hP hD hS 0 rfl rfl 38 (by decide) (hts _ wd_1070) (fun _ h9 => h9) rfl (by decide +kernel) rfl rfl (Nat.le_of_ble_eq_true rfl) dX7_seekOrders_28 (fun H locs hP hD hS => ?_)
  obtain ⟨hP, hD⟩ := wl2 (ws' := [(oc7 oM iM_thrown rM_tape iM_taped iM_size iM_at iM_end iM_token iM_whole iM_nameSize iM_fault iM_place iM_trouble rM_letters iM_failed iM_hasCourt rM_r rM_fresh rM_told rM_read rM_st rM_undone rM_kept iM_undos iM_images rM_fresher iM_fresherSize iM_scale iM_night rM_heardRow rM_cutRow iM_breaths iM_cutMany iM_allBreaths rM_trial rM_words iM_fewestBreaths 0 0 100000000 rM_often iM_setMany iM_someOf iM_allOf iM_allWeight iM_enoughWeight iM_worthSum iM_firstRest iM_leastDrawn), (arI rM_r kM_r 287 fM_r), (arI rM_told kM_told 90 fM_told), (arI rM_st kM_st 90 fM_st), (arI rM_heardRow kM_heardRow 400 fM_heardRow), (arI rM_cutRow kM_cutRow 800 fM_cutRow), (arI rM_trial kM_trial 90 f_4304)]) hP hD rfl
  refine lv_aload_n hx hb dX7_seekOrders_31 rfl (lv_at hl 0 rfl) ?_
  refine lv_iload_n hx hb dX7_seekOrders_32 rfl (lv_at hl 1 rfl) ?_
  refine lv_iconst (v := 0) hx hb dX7_seekOrders_33 (by decide) ?_
  refine lv_iconst (v := 0) hx hb dX7_seekOrders_34 (by decide) ?_
  have cn9 : cntP (bitN 0) (fM_r (27 + p0.toNatClampNeg)).toInt.toNat = 0 := cnt0 _
  have tr9 : TryOk fM_r fM_st f_4304 p0.toNatClampNeg 0 0 := try_zero e_f_4304_0
  have hFc := va_freeI hD hS hA
  refine va_callv (va_runV (As := [.int p0, .int 0, .int 0]) (rest := []) ⟨hx, hb, hml, hown, hts⟩ (tX7_try_0 l dC dI _ oM iM_thrown rM_tape iM_taped iM_size iM_at iM_end iM_token iM_whole iM_nameSize iM_fault iM_place iM_trouble rM_letters iM_failed iM_hasCourt rM_r fM_r kM_r rM_fresh rM_told fM_told kM_told rM_read rM_st fM_st kM_st rM_undone rM_kept iM_undos iM_images rM_fresher iM_fresherSize iM_scale iM_night rM_heardRow fM_heardRow kM_heardRow rM_cutRow fM_cutRow kM_cutRow iM_breaths iM_cutMany iM_allBreaths rM_trial f_4304 kM_trial rM_words iM_fewestBreaths 0 0 100000000 rM_often iM_setMany iM_someOf iM_allOf iM_allWeight iM_enoughWeight iM_worthSum iM_firstRest iM_leastDrawn p0 0 b_iM_taped b_iM_size b_iM_end b_iM_failed b_iM_hasCourt b_iM_undos b_iM_images b_iM_scale b_iM_breaths b_iM_cutMany (by assumption) (by assumption) (by assumption) (by assumption) (by assumption) ⟨hk0.1, hk0.2⟩ ⟨hth.1, hth.2⟩ mn_p0.1 ⟨(om_b1de7dbe kc_0), (om_cc27bd0e kc_0)⟩ (by first | assumption | (have q0 := kc_0; have q1 := kc_1; first | exact ⟨by omega, by omega⟩ | omega) | decide | (intro h; exact absurd h (by decide))) (by first | assumption | (have q0 := kc_0; have q1 := kc_1; first | exact ⟨by omega, by omega⟩ | omega) | decide | (intro h; exact absurd h (by decide))) ⟨(om_b1de7dbe kc_0), (om_4293847a kc_0)⟩) (cwV 3 hts (wd_V wd_1071 wd_1072 wd_1073 wd_5 (wd_c wd_1074)) rfl rfl rfl (by decide +kernel) ⟨Nat.le_of_ble_eq_true rfl, Nat.le_of_ble_eq_true rfl⟩) ⟨Pw.fb, recvX7 hK hP (q0 := 0) rfl, fun U hU hW => Pw.to hP hD hK hE hS hFc hU hW⟩ rfl rfl hl.1 rfl (lv_room (Nat.le_of_ble_eq_true rfl)) dX7_seekOrders_35 ⟨Nat.le_of_ble_eq_true rfl, Nat.le_of_ble_eq_true rfl⟩) hS (fun q _ h => hFc q h) hFc (fun u t H locs ht hvm hw hB hz1 hk1 hS => ?_)
  refine ex_8_5 hB (fun x_4305 x_4306 x_4307 x_4308 x_4309 f_4310 f_4311 f_4312 b_x_4305 b_x_4306 e_x_4305_0 e_x_4305_1 e_x_4305_2 hB => ?_)
  obtain ⟨hP, hD⟩ := Bw.goA (ws' := [(oc7 oM iM_thrown rM_tape iM_taped iM_size iM_at iM_end iM_token iM_whole iM_nameSize iM_fault iM_place iM_trouble rM_letters iM_failed iM_hasCourt rM_r rM_fresh rM_told rM_read rM_st rM_undone rM_kept iM_undos iM_images rM_fresher iM_fresherSize iM_scale iM_night rM_heardRow rM_cutRow x_4305 x_4306 iM_allBreaths rM_trial rM_words iM_fewestBreaths x_4307 x_4308 x_4309 rM_often iM_setMany iM_someOf iM_allOf iM_allWeight iM_enoughWeight iM_worthSum iM_firstRest iM_leastDrawn), (arI rM_r kM_r 287 fM_r), (arI rM_told kM_told 90 fM_told), (arI rM_st kM_st 90 fM_st), (arI rM_heardRow kM_heardRow 400 f_4310), (arI rM_cutRow kM_cutRow 800 f_4311), (arI rM_trial kM_trial 90 f_4312)]) hB rfl ht hFc rfl
  clear hz1 hk1 hvm ht hB
  have hG := hG.trans (un8_eq e_x_4305_2)
  exact wq_v hx hb hr 0 trivial (fun t ht hW => ⟨x_4305, x_4306, x_4307, x_4308, x_4309, f_4310, f_4311, f_4312, b_x_4305, b_x_4306, (by have q := kc_0; omega), hG, Bw.to hP hD hK ht hW⟩) hS dX7_seekOrders_38 hlocks
set_option maxHeartbeats 4000000 in
set_option maxRecDepth 100000 in
theorem tX7_orderMean (l : Launch) (dC : Nat → ClassId) (dI : Nat → Nat → Nat) (sz : Nat) (oM : Nat) (iM_thrown : Int32) (rM_tape : Nat) (iM_taped : Int32) (iM_size : Int32) (iM_at : Int32) (iM_end : Int32) (iM_token : Int32) (iM_whole : Int32) (iM_nameSize : Int32) (iM_fault : Int32) (iM_place : Int32) (iM_trouble : Int32) (rM_letters : Nat) (iM_failed : Int32) (iM_hasCourt : Int32) (rM_r : Nat) (fM_r : Nat → Int32) (kM_r : ClassId) (rM_fresh : Nat) (rM_told : Nat) (fM_told : Nat → Int32) (kM_told : ClassId) (rM_read : Nat) (rM_st : Nat) (fM_st : Nat → Int32) (kM_st : ClassId) (rM_undone : Nat) (rM_kept : Nat) (iM_undos : Int32) (iM_images : Int32) (rM_fresher : Nat) (iM_fresherSize : Int32) (iM_scale : Int32) (iM_night : Int32) (rM_heardRow : Nat) (fM_heardRow : Nat → Int32) (kM_heardRow : ClassId) (rM_cutRow : Nat) (fM_cutRow : Nat → Int32) (kM_cutRow : ClassId) (iM_breaths : Int32) (iM_cutMany : Int32) (iM_allBreaths : Int32) (rM_trial : Nat) (fM_trial : Nat → Int32) (kM_trial : ClassId) (rM_words : Nat) (iM_fewestBreaths : Int32) (iM_orderMany : Int32) (iM_orderSum : Int32) (iM_leastOrder : Int32) (rM_often : Nat) (iM_setMany : Int32) (iM_someOf : Int32) (iM_allOf : Int32) (iM_allWeight : Int64) (iM_enoughWeight : Int64) (iM_worthSum : Int64) (iM_firstRest : Int32) (iM_leastDrawn : Int32) (p0 : Int32) (p1 : Int32) (b_iM_taped : 0 ≤ iM_taped.toInt ∧ iM_taped.toInt ≤ 900) (b_iM_size : 0 ≤ iM_size.toInt ∧ iM_size.toInt ≤ 900) (b_iM_end : 0 ≤ iM_end.toInt ∧ iM_end.toInt ≤ 900) (b_iM_failed : 0 ≤ iM_failed.toInt ∧ iM_failed.toInt ≤ 1) (b_iM_hasCourt : 0 ≤ iM_hasCourt.toInt ∧ iM_hasCourt.toInt ≤ 1) (b_iM_undos : 0 ≤ iM_undos.toInt ∧ iM_undos.toInt ≤ 16) (b_iM_images : 0 ≤ iM_images.toInt ∧ iM_images.toInt ≤ 3) (b_iM_scale : 1 ≤ iM_scale.toInt ∧ iM_scale.toInt ≤ 1296) (b_iM_breaths : 0 ≤ iM_breaths.toInt ∧ iM_breaths.toInt ≤ 399) (b_iM_cutMany : 0 ≤ iM_cutMany.toInt ∧ iM_cutMany.toInt ≤ 399) (r_R : ROk fM_r) (r_C : iM_hasCourt.toInt ≤ 0 ∨ (1 ≤ (fM_r 1).toInt ∧ 0 ≤ (fM_r 6).toInt ∧ (fM_r 6).toInt < (fM_r 1).toInt)) (r_st : RowOk fM_r fM_st) (r_told : RowOk fM_r fM_told) (r_wst : WorOk fM_st)  : Met l yX7_orderMean (Cond.code yX7_orderMean cX7_orderMean 3 (some .long) :: wG) ({ frames := 28, cells := 0, slots := 0, locals := 765 }) (va_Pc [.ref oM, .int p0, .int p1] (Pw dC dI sz [(oc7 oM iM_thrown rM_tape iM_taped iM_size iM_at iM_end iM_token iM_whole iM_nameSize iM_fault iM_place iM_trouble rM_letters iM_failed iM_hasCourt rM_r rM_fresh rM_told rM_read rM_st rM_undone rM_kept iM_undos iM_images rM_fresher iM_fresherSize iM_scale iM_night rM_heardRow rM_cutRow iM_breaths iM_cutMany iM_allBreaths rM_trial rM_words iM_fewestBreaths iM_orderMany iM_orderSum iM_leastOrder rM_often iM_setMany iM_someOf iM_allOf iM_allWeight iM_enoughWeight iM_worthSum iM_firstRest iM_leastDrawn), (arI rM_r kM_r 287 fM_r), (arI rM_told kM_told 90 fM_told), (arI rM_st kM_st 90 fM_st), (arI rM_heardRow kM_heardRow 400 fM_heardRow), (arI rM_cutRow kM_cutRow 800 fM_cutRow), (arI rM_trial kM_trial 90 fM_trial)] [(kM_r, .int), (kM_told, .int), (kM_st, .int), (kM_heardRow, .int), (kM_cutRow, .int), (kM_trial, .int)])) (va_Ql (fun (r : Int64) (u : Nat) => (True ∧ True) ∧ r = Int64.ofNat u) (fun (u : Nat) (t : State) => ∃ (niM_thrown : Int32) (niM_trouble : Int32) (niM_breaths : Int32) (niM_cutMany : Int32) (niM_orderMany : Int32) (niM_orderSum : Int32) (niM_leastOrder : Int32) (nfM_heardRow : Nat → Int32) (nfM_cutRow : Nat → Int32) (nfM_trial : Nat → Int32), (0 ≤ niM_breaths.toInt ∧ niM_breaths.toInt ≤ 399) ∧ (0 ≤ niM_cutMany.toInt ∧ niM_cutMany.toInt ≤ 399) ∧ (PX7_orderMean iM_hasCourt fM_r fM_told fM_st iM_scale fM_heardRow fM_cutRow iM_breaths iM_cutMany fM_trial iM_orderMany iM_orderSum iM_leastOrder p0 p1 = (Int64.ofNat u, niM_thrown, niM_trouble, niM_breaths, niM_cutMany, niM_orderMany, niM_orderSum, niM_leastOrder, nfM_heardRow, nfM_cutRow, nfM_trial)) ∧ Bw dC dI (va_A [(oc7 oM iM_thrown rM_tape iM_taped iM_size iM_at iM_end iM_token iM_whole iM_nameSize iM_fault iM_place iM_trouble rM_letters iM_failed iM_hasCourt rM_r rM_fresh rM_told rM_read rM_st rM_undone rM_kept iM_undos iM_images rM_fresher iM_fresherSize iM_scale iM_night rM_heardRow rM_cutRow iM_breaths iM_cutMany iM_allBreaths rM_trial rM_words iM_fewestBreaths iM_orderMany iM_orderSum iM_leastOrder rM_often iM_setMany iM_someOf iM_allOf iM_allWeight iM_enoughWeight iM_worthSum iM_firstRest iM_leastDrawn), (arI rM_r kM_r 287 fM_r), (arI rM_told kM_told 90 fM_told), (arI rM_st kM_st 90 fM_st), (arI rM_heardRow kM_heardRow 400 fM_heardRow), (arI rM_cutRow kM_cutRow 800 fM_cutRow), (arI rM_trial kM_trial 90 fM_trial)] sz) [(oc7 oM niM_thrown rM_tape iM_taped iM_size iM_at iM_end iM_token iM_whole iM_nameSize iM_fault iM_place niM_trouble rM_letters iM_failed iM_hasCourt rM_r rM_fresh rM_told rM_read rM_st rM_undone rM_kept iM_undos iM_images rM_fresher iM_fresherSize iM_scale iM_night rM_heardRow rM_cutRow niM_breaths niM_cutMany iM_allBreaths rM_trial rM_words iM_fewestBreaths niM_orderMany niM_orderSum niM_leastOrder rM_often iM_setMany iM_someOf iM_allOf iM_allWeight iM_enoughWeight iM_worthSum iM_firstRest iM_leastDrawn), (arI rM_r kM_r 287 fM_r), (arI rM_told kM_told 90 fM_told), (arI rM_st kM_st 90 fM_st), (arI rM_heardRow kM_heardRow 400 nfM_heardRow), (arI rM_cutRow kM_cutRow 800 nfM_cutRow), (arI rM_trial kM_trial 90 nfM_trial)] [(kM_r, .int), (kM_told, .int), (kM_st, .int), (kM_heardRow, .int), (kM_cutRow, .int), (kM_trial, .int)] t) (va_A [(oc7 oM iM_thrown rM_tape iM_taped iM_size iM_at iM_end iM_token iM_whole iM_nameSize iM_fault iM_place iM_trouble rM_letters iM_failed iM_hasCourt rM_r rM_fresh rM_told rM_read rM_st rM_undone rM_kept iM_undos iM_images rM_fresher iM_fresherSize iM_scale iM_night rM_heardRow rM_cutRow iM_breaths iM_cutMany iM_allBreaths rM_trial rM_words iM_fewestBreaths iM_orderMany iM_orderSum iM_leastOrder rM_often iM_setMany iM_someOf iM_allOf iM_allWeight iM_enoughWeight iM_worthSum iM_firstRest iM_leastDrawn), (arI rM_r kM_r 287 fM_r), (arI rM_told kM_told 90 fM_told), (arI rM_st kM_st 90 fM_st), (arI rM_heardRow kM_heardRow 400 fM_heardRow), (arI rM_cutRow kM_cutRow 800 fM_cutRow), (arI rM_trial kM_trial 90 fM_trial)] sz)) 0 0 (va_A [(oc7 oM iM_thrown rM_tape iM_taped iM_size iM_at iM_end iM_token iM_whole iM_nameSize iM_fault iM_place iM_trouble rM_letters iM_failed iM_hasCourt rM_r rM_fresh rM_told rM_read rM_st rM_undone rM_kept iM_undos iM_images rM_fresher iM_fresherSize iM_scale iM_night rM_heardRow rM_cutRow iM_breaths iM_cutMany iM_allBreaths rM_trial rM_words iM_fewestBreaths iM_orderMany iM_orderSum iM_leastOrder rM_often iM_setMany iM_someOf iM_allOf iM_allWeight iM_enoughWeight iM_worthSum iM_firstRest iM_leastDrawn), (arI rM_r kM_r 287 fM_r), (arI rM_told kM_told 90 fM_told), (arI rM_st kM_st 90 fM_st), (arI rM_heardRow kM_heardRow 400 fM_heardRow), (arI rM_cutRow kM_cutRow 800 fM_cutRow), (arI rM_trial kM_trial 90 fM_trial)] sz) := by
  refine Met.ofW (cc := cX7_orderMean) (maxL := 3) (ret := (some .long)) pnX7 rfl ?_
  intro p e s m args below meth c s₁ B hml hv
  obtain ⟨rfl, hsz, hP, hK, hD0, hE⟩ := hv
  have hx := B.exec
  have hb := B.bytes
  have hr := B.returns
  have hts : ∀ w ∈ wG, w.before ([.ref oM, .int p0, .int p1] : List Value).toArray s = true := fun w h => atoms_spec (ws := Cond.code yX7_orderMean cX7_orderMean 3 (some .long) :: wG) B.pre w (List.mem_cons_of_mem _ h)
  have hown : s.vm.findClass RX7 = some m.cls := own_of B.named rfl
  have hlocks := B.notSynchronized
  subst hsz
  have hD := hD0.self (sz := s.heap.size)
  generalize hAe : va_A [(oc7 oM iM_thrown rM_tape iM_taped iM_size iM_at iM_end iM_token iM_whole iM_nameSize iM_fault iM_place iM_trouble rM_letters iM_failed iM_hasCourt rM_r rM_fresh rM_told rM_read rM_st rM_undone rM_kept iM_undos iM_images rM_fresher iM_fresherSize iM_scale iM_night rM_heardRow rM_cutRow iM_breaths iM_cutMany iM_allBreaths rM_trial rM_words iM_fewestBreaths iM_orderMany iM_orderSum iM_leastOrder rM_often iM_setMany iM_someOf iM_allOf iM_allWeight iM_enoughWeight iM_worthSum iM_firstRest iM_leastDrawn), (arI rM_r kM_r 287 fM_r), (arI rM_told kM_told 90 fM_told), (arI rM_st kM_st 90 fM_st), (arI rM_heardRow kM_heardRow 400 fM_heardRow), (arI rM_cutRow kM_cutRow 800 fM_cutRow), (arI rM_trial kM_trial 90 fM_trial)] s.heap.size = A at hD hE ⊢
  have hA : ∀ q : Nat, s.heap.size ≤ q → A q := fun q h => by rw [← hAe]; exact Or.inr h
  have hS : va_S A s.heap s.heap [] := va_S.rf
  have hl := lv_entry ([.ref oM, .int p0, .int p1]) (n := 3) (Nat.le_of_ble_eq_true rfl)
  rw [lg_entry_eq]
  generalize (lg_sl ([.ref oM, .int p0, .int p1]) ++ List.replicate (3 - (lg_sl ([.ref oM, .int p0, .int p1])).length) Slot.unset).toArray = ls at hl ⊢
  have hl : lv_has ls 3 [(0, .ref oM), (1, .int p0), (2, .int p1)] := hl
  have hG := PX7_orderMean_eq iM_hasCourt fM_r fM_told fM_st iM_scale fM_heardRow fM_cutRow iM_breaths iM_cutMany fM_trial iM_orderMany iM_orderSum iM_leastOrder p0 p1
  have s_slips := r_R.slips
  have s_nodes := r_R.nodes
  have s_uns := r_R.uns
  refine lv_aload_n hx hb dX7_orderMean_0 rfl (lv_at hl 0 rfl) ?_
  have hMs := ml_of hD [true, false, false, false, false, false, false] (wc := [(oc7 oM iM_thrown rM_tape iM_taped iM_size iM_at iM_end iM_token iM_whole iM_nameSize iM_fault iM_place iM_trouble rM_letters iM_failed iM_hasCourt rM_r rM_fresh rM_told rM_read rM_st rM_undone rM_kept iM_undos iM_images rM_fresher iM_fresherSize iM_scale iM_night rM_heardRow rM_cutRow iM_breaths iM_cutMany iM_allBreaths rM_trial rM_words iM_fewestBreaths iM_orderMany iM_orderSum iM_leastOrder rM_often iM_setMany iM_someOf iM_allOf iM_allWeight iM_enoughWeight iM_worthSum iM_firstRest iM_leastDrawn)]) rfl
  have hFc := va_freeM hD hS hA _ hMs
  refine va_callv (va_runV (As := []) (rest := []) ⟨hx, hb, hml, hown, hts⟩ (tX7_good l dC dI _ oM iM_thrown rM_tape iM_taped iM_size iM_at iM_end iM_token iM_whole iM_nameSize iM_fault iM_place iM_trouble rM_letters iM_failed iM_hasCourt rM_r rM_fresh rM_told rM_read rM_st rM_undone rM_kept iM_undos iM_images rM_fresher iM_fresherSize iM_scale iM_night rM_heardRow rM_cutRow iM_breaths iM_cutMany iM_allBreaths rM_trial rM_words iM_fewestBreaths iM_orderMany iM_orderSum iM_leastOrder rM_often iM_setMany iM_someOf iM_allOf iM_allWeight iM_enoughWeight iM_worthSum iM_firstRest iM_leastDrawn b_iM_taped b_iM_size b_iM_end b_iM_failed b_iM_hasCourt b_iM_undos b_iM_images b_iM_scale b_iM_breaths b_iM_cutMany) (cwV 0 hts (wd_V wd_388 wd_389 wd_390 wd_5 (wd_c wd_391)) rfl rfl rfl dv_yX7_good_0 ⟨Nat.le_of_ble_eq_true rfl, Nat.le_of_ble_eq_true rfl⟩) ⟨Pw.fb, recvX7 hK hP (q0 := 0) rfl, fun U hU hW => Pw.to (hP.ms _ hMs) (hD.ms _ hMs) (hK.ms [false, false, false, false, false, false] rfl) hE hS hFc hU hW⟩ rfl rfl hl.1 rfl (lv_room (Nat.le_of_ble_eq_true rfl)) dX7_orderMean_1 ⟨Nat.le_of_ble_eq_true rfl, Nat.le_of_ble_eq_true rfl⟩) hS (fun q _ h => hFc q h) hFc (fun u t H locs ht hvm hw hB hz1 hk1 hS => ?_)
  refine ex_2_3 hB (fun x_4332 x_4333 b_x_4332 b_x_4333 e_x_4332_0 hB => ?_)
  obtain ⟨hP, hD⟩ := Bw.goN (ws' := [(oc7 oM x_4332 rM_tape iM_taped iM_size iM_at iM_end iM_token iM_whole iM_nameSize iM_fault iM_place x_4333 rM_letters iM_failed iM_hasCourt rM_r rM_fresh rM_told rM_read rM_st rM_undone rM_kept iM_undos iM_images rM_fresher iM_fresherSize iM_scale iM_night rM_heardRow rM_cutRow iM_breaths iM_cutMany iM_allBreaths rM_trial rM_words iM_fewestBreaths iM_orderMany iM_orderSum iM_leastOrder rM_often iM_setMany iM_someOf iM_allOf iM_allWeight iM_enoughWeight iM_worthSum iM_firstRest iM_leastDrawn), (arI rM_r kM_r 287 fM_r), (arI rM_told kM_told 90 fM_told), (arI rM_st kM_st 90 fM_st), (arI rM_heardRow kM_heardRow 400 fM_heardRow), (arI rM_cutRow kM_cutRow 800 fM_cutRow), (arI rM_trial kM_trial 90 fM_trial)]) hB rfl ht hP hD _ hMs hk1 hFc rfl
  clear hz1 hk1 hvm ht hB hMs
  have hG := hG.trans (un2_eq e_x_4332_0)
  refine lv_aload_n hx hb dX7_orderMean_4 rfl (lv_at hl 0 rfl) ?_
  refine lv_iload_n hx hb dX7_orderMean_5 rfl (lv_at hl 1 rfl) ?_
  have hMs := ml_of hD [true, true, false, false, false, false, false] (wc := [(oc7 oM x_4332 rM_tape iM_taped iM_size iM_at iM_end iM_token iM_whole iM_nameSize iM_fault iM_place x_4333 rM_letters iM_failed iM_hasCourt rM_r rM_fresh rM_told rM_read rM_st rM_undone rM_kept iM_undos iM_images rM_fresher iM_fresherSize iM_scale iM_night rM_heardRow rM_cutRow iM_breaths iM_cutMany iM_allBreaths rM_trial rM_words iM_fewestBreaths iM_orderMany iM_orderSum iM_leastOrder rM_often iM_setMany iM_someOf iM_allOf iM_allWeight iM_enoughWeight iM_worthSum iM_firstRest iM_leastDrawn), (arI rM_r kM_r 287 fM_r)]) rfl
  have hFc := va_freeM hD hS hA _ hMs
  refine va_calli (va_runV (As := [.int p0]) (rest := []) ⟨hx, hb, hml, hown, hts⟩ (tX7_isNode l dC dI _ oM x_4332 rM_tape iM_taped iM_size iM_at iM_end iM_token iM_whole iM_nameSize iM_fault iM_place x_4333 rM_letters iM_failed iM_hasCourt rM_r fM_r kM_r rM_fresh rM_told rM_read rM_st rM_undone rM_kept iM_undos iM_images rM_fresher iM_fresherSize iM_scale iM_night rM_heardRow rM_cutRow iM_breaths iM_cutMany iM_allBreaths rM_trial rM_words iM_fewestBreaths iM_orderMany iM_orderSum iM_leastOrder rM_often iM_setMany iM_someOf iM_allOf iM_allWeight iM_enoughWeight iM_worthSum iM_firstRest iM_leastDrawn p0 b_iM_taped b_iM_size b_iM_end b_iM_failed b_iM_hasCourt b_iM_undos b_iM_images b_iM_scale b_iM_breaths b_iM_cutMany (by assumption) (by assumption)) (cwV 1 hts (wd_V wd_544 wd_545 wd_546 wd_5 (wd_c wd_547)) rfl rfl rfl dv_yX7_isNode_1 ⟨Nat.le_of_ble_eq_true rfl, Nat.le_of_ble_eq_true rfl⟩) ⟨Pw.fb, recvX7 hK hP (q0 := 0) rfl, fun U hU hW => Pw.to (hP.ms _ hMs) (hD.ms _ hMs) (hK.ms [true, false, false, false, false, false] rfl) hE hS hFc hU hW⟩ rfl rfl hl.1 rfl (lv_room (Nat.le_of_ble_eq_true rfl)) dX7_orderMean_6 ⟨Nat.le_of_ble_eq_true rfl, Nat.le_of_ble_eq_true rfl⟩) hS (fun q _ h => hFc q h) hFc (fun r u t H locs ht hvm hw hB hz1 hk1 hS => ?_)
  have hru9 := hw.2
  have hw := hw.1
  obtain ⟨hP, hD⟩ := Bw.goN (ws' := [(oc7 oM x_4332 rM_tape iM_taped iM_size iM_at iM_end iM_token iM_whole iM_nameSize iM_fault iM_place x_4333 rM_letters iM_failed iM_hasCourt rM_r rM_fresh rM_told rM_read rM_st rM_undone rM_kept iM_undos iM_images rM_fresher iM_fresherSize iM_scale iM_night rM_heardRow rM_cutRow iM_breaths iM_cutMany iM_allBreaths rM_trial rM_words iM_fewestBreaths iM_orderMany iM_orderSum iM_leastOrder rM_often iM_setMany iM_someOf iM_allOf iM_allWeight iM_enoughWeight iM_worthSum iM_firstRest iM_leastDrawn), (arI rM_r kM_r 287 fM_r), (arI rM_told kM_told 90 fM_told), (arI rM_st kM_st 90 fM_st), (arI rM_heardRow kM_heardRow 400 fM_heardRow), (arI rM_cutRow kM_cutRow 800 fM_cutRow), (arI rM_trial kM_trial 90 fM_trial)]) hB rfl ht hP hD _ hMs hk1 hFc rfl
  clear hz1 hk1 hvm ht hB hMs
  rcases hw.2 with ⟨rfl, hc_4334⟩ | ⟨rfl, hc_4334⟩
  · skip
    have hG := hG.trans (lt_eq hru9.symm)
    have hG := hG.trans (if_pos rfl)
    refine lv_if_ne (tgt := 19) hx hb dX7_orderMean_9 (by decide) (fun _ => ?_) (fun c => absurd c (by decide))
    refine lv_aload_n hx hb dX7_orderMean_19 rfl (lv_at hl 0 rfl) ?_
    refine lv_iload_n hx hb dX7_orderMean_20 rfl (lv_at hl 1 rfl) ?_
    have hFc := va_freeI hD hS hA
    refine va_callv (va_runV (As := [.int p0]) (rest := []) ⟨hx, hb, hml, hown, hts⟩ (tX7_seekOrders l dC dI _ oM x_4332 rM_tape iM_taped iM_size iM_at iM_end iM_token iM_whole iM_nameSize iM_fault iM_place x_4333 rM_letters iM_failed iM_hasCourt rM_r fM_r kM_r rM_fresh rM_told fM_told kM_told rM_read rM_st fM_st kM_st rM_undone rM_kept iM_undos iM_images rM_fresher iM_fresherSize iM_scale iM_night rM_heardRow fM_heardRow kM_heardRow rM_cutRow fM_cutRow kM_cutRow iM_breaths iM_cutMany iM_allBreaths rM_trial fM_trial kM_trial rM_words iM_fewestBreaths iM_orderMany iM_orderSum iM_leastOrder rM_often iM_setMany iM_someOf iM_allOf iM_allWeight iM_enoughWeight iM_worthSum iM_firstRest iM_leastDrawn p0 b_iM_taped b_iM_size b_iM_end b_iM_failed b_iM_hasCourt b_iM_undos b_iM_images b_iM_scale b_iM_breaths b_iM_cutMany (by assumption) (by assumption) (by assumption) (by assumption) (by assumption) ⟨hc_4334.1, hc_4334.2.1⟩ ⟨hc_4334.2.2.2.1, hc_4334.2.2.2.2⟩) (cwV 1 hts (wd_V wd_1066 wd_1067 wd_1068 wd_5 (wd_c wd_1069)) rfl rfl rfl dv_yX7_seekOrders_1 ⟨Nat.le_of_ble_eq_true rfl, Nat.le_of_ble_eq_true rfl⟩) ⟨Pw.fb, recvX7 hK hP (q0 := 0) rfl, fun U hU hW => Pw.to hP hD hK hE hS hFc hU hW⟩ rfl rfl hl.1 rfl (lv_room (Nat.le_of_ble_eq_true rfl)) dX7_orderMean_21 ⟨Nat.le_of_ble_eq_true rfl, Nat.le_of_ble_eq_true rfl⟩) hS (fun q _ h => hFc q h) hFc (fun u t H locs ht hvm hw hB hz1 hk1 hS => ?_)
    refine ex_8_4 hB (fun x_4337 x_4338 x_4339 x_4340 x_4341 f_4342 f_4343 f_4344 b_x_4337 b_x_4338 e_x_4337_0 e_x_4337_1 hB => ?_)
    obtain ⟨hP, hD⟩ := Bw.goA (ws' := [(oc7 oM x_4332 rM_tape iM_taped iM_size iM_at iM_end iM_token iM_whole iM_nameSize iM_fault iM_place x_4333 rM_letters iM_failed iM_hasCourt rM_r rM_fresh rM_told rM_read rM_st rM_undone rM_kept iM_undos iM_images rM_fresher iM_fresherSize iM_scale iM_night rM_heardRow rM_cutRow x_4337 x_4338 iM_allBreaths rM_trial rM_words iM_fewestBreaths x_4339 x_4340 x_4341 rM_often iM_setMany iM_someOf iM_allOf iM_allWeight iM_enoughWeight iM_worthSum iM_firstRest iM_leastDrawn), (arI rM_r kM_r 287 fM_r), (arI rM_told kM_told 90 fM_told), (arI rM_st kM_st 90 fM_st), (arI rM_heardRow kM_heardRow 400 f_4342), (arI rM_cutRow kM_cutRow 800 f_4343), (arI rM_trial kM_trial 90 f_4344)]) hB rfl ht hFc rfl
    clear hz1 hk1 hvm ht hB
    have hG := hG.trans (un8_eq e_x_4337_1)
    refine lv_aload_n hx hb dX7_orderMean_24 rfl (lv_at hl 0 rfl) ?_
    refine va_get (D := (dC, dI)) (ci := 7) (v := .int x_4340) (C := RX7) (T := TX7) (N := 48) hx hb hts inX7 hown hK hP 0 rfl rfl 37 (by decide) (hts _ wd_1064) (fun _ h9 => h9) rfl dX7_orderMean_25 ?_
    obtain ⟨y_4345, ey_4345⟩ : ∃ z : Int64, z = (x_4340 : Int32).toInt64 := ⟨_, rfl⟩
    have hG := hG.trans (lt_eq ey_4345)
    refine lv_i2l (v := y_4345) hx hb dX7_orderMean_28 ey_4345.symm ?_
    refine lv_aload_n hx hb dX7_orderMean_29 rfl (lv_at hl 0 rfl) ?_
    refine va_get (D := (dC, dI)) (ci := 7) (v := .int x_4339) (C := RX7) (T := TX7) (N := 48) hx hb hts inX7 hown hK hP 0 rfl rfl 36 (by decide) (hts _ wd_1065) (fun _ h9 => h9) rfl dX7_orderMean_30 ?_
    obtain ⟨y_4346, ey_4346⟩ : ∃ z : Int64, z = (x_4339 : Int32).toInt64 := ⟨_, rfl⟩
    have hG := hG.trans (lt_eq ey_4346)
    refine lv_i2l (v := y_4346) hx hb dX7_orderMean_33 ey_4346.symm ?_
    have nz_y_4346 := i2l_nz ey_4346 (by omega)
    refine lv_iload_n hx hb dX7_orderMean_34 rfl (lv_at hl 2 rfl) ?_
    have hFc : ∀ q, va_A [] _ q → A q := fun q h => hA q (Nat.le_trans hS.1 (va_nilA h))
    refine va_calll (va_runS (As := [.long y_4345, .long y_4346, .int p1]) (rest := []) ⟨hx, hb, hml, hown, hts⟩ (tX7_lowest l dC dI _ y_4345 y_4346 p1 nz_y_4346) (va_cwS 3 hts (wd_S wd_655 wd_656 wd_5 (wd_c wd_657)) rfl rfl rfl ds_yX7_lowest_3 ⟨Nat.le_of_ble_eq_true rfl, Nat.le_of_ble_eq_true rfl⟩) ⟨Pw.fb, fun U hU hW => Pn.to hK hE hS hA hU hW⟩ rfl rfl hl.1 rfl (lv_room (Nat.le_of_ble_eq_true rfl)) dX7_orderMean_35 ⟨Nat.le_of_ble_eq_true rfl, Nat.le_of_ble_eq_true rfl⟩) hS (fun q _ h => hFc q h) hFc (fun r u t H locs ht hvm hw hB hz1 hk1 hS => ?_)
    obtain ⟨hP, hD, hK⟩ := Bw.same ht hvm hP hD hK hk1 hFc
    clear hz1 hk1 hvm ht hB
    have hq9 := hw.2
    have hw := hw.1
    obtain ⟨y_4347, rfl⟩ : ∃ z, z = r := ⟨_, rfl⟩
    have hq_y_4347 := hq9
    have hG := hG.trans (lt_eq hq_y_4347.symm)
    exact wq_l hx hb hr (cL y_4347) ⟨⟨trivial, trivial⟩, (cL_of y_4347)⟩ (fun t ht hW => ⟨x_4332, x_4333, x_4337, x_4338, x_4339, x_4340, x_4341, f_4342, f_4343, f_4344, b_x_4337, b_x_4338, (cL_tup hG), Bw.to hP hD hK ht hW⟩) hS dX7_orderMean_38 hlocks
  · skip
    have hG := hG.trans (lt_eq hru9.symm)
    have hG := hG.trans (if_neg (by decide))
    refine lv_if_ne (tgt := 19) hx hb dX7_orderMean_9 (by decide) (fun c => absurd c (by decide)) (fun _ => ?_)
    refine lv_aload_n hx hb dX7_orderMean_12 rfl (lv_at hl 0 rfl) ?_
    refine lv_iconst (v := 1) hx hb dX7_orderMean_13 (by decide) ?_
    have hMs := ml_of hD [true, false, false, false, false, false, false] (wc := [(oc7 oM x_4332 rM_tape iM_taped iM_size iM_at iM_end iM_token iM_whole iM_nameSize iM_fault iM_place x_4333 rM_letters iM_failed iM_hasCourt rM_r rM_fresh rM_told rM_read rM_st rM_undone rM_kept iM_undos iM_images rM_fresher iM_fresherSize iM_scale iM_night rM_heardRow rM_cutRow iM_breaths iM_cutMany iM_allBreaths rM_trial rM_words iM_fewestBreaths iM_orderMany iM_orderSum iM_leastOrder rM_often iM_setMany iM_someOf iM_allOf iM_allWeight iM_enoughWeight iM_worthSum iM_firstRest iM_leastDrawn)]) rfl
    have hFc := va_freeM hD hS hA _ hMs
    refine va_calli (va_runV (As := [.int 1]) (rest := []) ⟨hx, hb, hml, hown, hts⟩ (tX7_no l dC dI _ oM x_4332 rM_tape iM_taped iM_size iM_at iM_end iM_token iM_whole iM_nameSize iM_fault iM_place x_4333 rM_letters iM_failed iM_hasCourt rM_r rM_fresh rM_told rM_read rM_st rM_undone rM_kept iM_undos iM_images rM_fresher iM_fresherSize iM_scale iM_night rM_heardRow rM_cutRow iM_breaths iM_cutMany iM_allBreaths rM_trial rM_words iM_fewestBreaths iM_orderMany iM_orderSum iM_leastOrder rM_often iM_setMany iM_someOf iM_allOf iM_allWeight iM_enoughWeight iM_worthSum iM_firstRest iM_leastDrawn 1 b_iM_taped b_iM_size b_iM_end b_iM_failed b_iM_hasCourt b_iM_undos b_iM_images b_iM_scale b_iM_breaths b_iM_cutMany) (cwV 1 hts (wd_V wd_396 wd_397 wd_398 wd_5 (wd_c wd_399)) rfl rfl rfl dv_yX7_no_1 ⟨Nat.le_of_ble_eq_true rfl, Nat.le_of_ble_eq_true rfl⟩) ⟨Pw.fb, recvX7 hK hP (q0 := 0) rfl, fun U hU hW => Pw.to (hP.ms _ hMs) (hD.ms _ hMs) (hK.ms [false, false, false, false, false, false] rfl) hE hS hFc hU hW⟩ rfl rfl hl.1 rfl (lv_room (Nat.le_of_ble_eq_true rfl)) dX7_orderMean_14 ⟨Nat.le_of_ble_eq_true rfl, Nat.le_of_ble_eq_true rfl⟩) hS (fun q _ h => hFc q h) hFc (fun r u t H locs ht hvm hw hB hz1 hk1 hS => ?_)
    have hru9 := hw.2
    have hw := hw.1
    refine ex_1_1 hB (fun x_4349 e_x_4349_0 hB => ?_)
    obtain ⟨hP, hD⟩ := Bw.goN (ws' := [(oc7 oM x_4332 rM_tape iM_taped iM_size iM_at iM_end iM_token iM_whole iM_nameSize iM_fault iM_place x_4349 rM_letters iM_failed iM_hasCourt rM_r rM_fresh rM_told rM_read rM_st rM_undone rM_kept iM_undos iM_images rM_fresher iM_fresherSize iM_scale iM_night rM_heardRow rM_cutRow iM_breaths iM_cutMany iM_allBreaths rM_trial rM_words iM_fewestBreaths iM_orderMany iM_orderSum iM_leastOrder rM_often iM_setMany iM_someOf iM_allOf iM_allWeight iM_enoughWeight iM_worthSum iM_firstRest iM_leastDrawn), (arI rM_r kM_r 287 fM_r), (arI rM_told kM_told 90 fM_told), (arI rM_st kM_st 90 fM_st), (arI rM_heardRow kM_heardRow 400 fM_heardRow), (arI rM_cutRow kM_cutRow 800 fM_cutRow), (arI rM_trial kM_trial 90 fM_trial)]) hB rfl ht hP hD _ hMs hk1 hFc rfl
    clear hz1 hk1 hvm ht hB hMs
    rw [← hru9] at e_x_4349_0
    obtain ⟨x_4350, rfl⟩ : ∃ z, z = r := ⟨_, rfl⟩
    have hG := hG.trans (un2_eq e_x_4349_0)
    obtain ⟨y_4351, ey_4351⟩ : ∃ z : Int64, z = (x_4350 : Int32).toInt64 := ⟨_, rfl⟩
    have hG := hG.trans (lt_eq ey_4351)
    refine lv_i2l (v := y_4351) hx hb dX7_orderMean_17 ey_4351.symm ?_
    exact wq_l hx hb hr (cL y_4351) ⟨⟨trivial, trivial⟩, (cL_of y_4351)⟩ (fun t ht hW => ⟨x_4332, x_4349, iM_breaths, iM_cutMany, iM_orderMany, iM_orderSum, iM_leastOrder, fM_heardRow, fM_cutRow, fM_trial, ⟨b_iM_breaths.1, b_iM_breaths.2⟩, ⟨b_iM_cutMany.1, b_iM_cutMany.2⟩, (cL_tup hG), Bw.to hP hD hK ht hW⟩) hS dX7_orderMean_18 hlocks
set_option maxHeartbeats 4000000 in
set_option maxRecDepth 100000 in
theorem tX7_orderLeast (l : Launch) (dC : Nat → ClassId) (dI : Nat → Nat → Nat) (sz : Nat) (oM : Nat) (iM_thrown : Int32) (rM_tape : Nat) (iM_taped : Int32) (iM_size : Int32) (iM_at : Int32) (iM_end : Int32) (iM_token : Int32) (iM_whole : Int32) (iM_nameSize : Int32) (iM_fault : Int32) (iM_place : Int32) (iM_trouble : Int32) (rM_letters : Nat) (iM_failed : Int32) (iM_hasCourt : Int32) (rM_r : Nat) (fM_r : Nat → Int32) (kM_r : ClassId) (rM_fresh : Nat) (rM_told : Nat) (fM_told : Nat → Int32) (kM_told : ClassId) (rM_read : Nat) (rM_st : Nat) (fM_st : Nat → Int32) (kM_st : ClassId) (rM_undone : Nat) (rM_kept : Nat) (iM_undos : Int32) (iM_images : Int32) (rM_fresher : Nat) (iM_fresherSize : Int32) (iM_scale : Int32) (iM_night : Int32) (rM_heardRow : Nat) (fM_heardRow : Nat → Int32) (kM_heardRow : ClassId) (rM_cutRow : Nat) (fM_cutRow : Nat → Int32) (kM_cutRow : ClassId) (iM_breaths : Int32) (iM_cutMany : Int32) (iM_allBreaths : Int32) (rM_trial : Nat) (fM_trial : Nat → Int32) (kM_trial : ClassId) (rM_words : Nat) (iM_fewestBreaths : Int32) (iM_orderMany : Int32) (iM_orderSum : Int32) (iM_leastOrder : Int32) (rM_often : Nat) (iM_setMany : Int32) (iM_someOf : Int32) (iM_allOf : Int32) (iM_allWeight : Int64) (iM_enoughWeight : Int64) (iM_worthSum : Int64) (iM_firstRest : Int32) (iM_leastDrawn : Int32) (p0 : Int32) (b_iM_taped : 0 ≤ iM_taped.toInt ∧ iM_taped.toInt ≤ 900) (b_iM_size : 0 ≤ iM_size.toInt ∧ iM_size.toInt ≤ 900) (b_iM_end : 0 ≤ iM_end.toInt ∧ iM_end.toInt ≤ 900) (b_iM_failed : 0 ≤ iM_failed.toInt ∧ iM_failed.toInt ≤ 1) (b_iM_hasCourt : 0 ≤ iM_hasCourt.toInt ∧ iM_hasCourt.toInt ≤ 1) (b_iM_undos : 0 ≤ iM_undos.toInt ∧ iM_undos.toInt ≤ 16) (b_iM_images : 0 ≤ iM_images.toInt ∧ iM_images.toInt ≤ 3) (b_iM_scale : 1 ≤ iM_scale.toInt ∧ iM_scale.toInt ≤ 1296) (b_iM_breaths : 0 ≤ iM_breaths.toInt ∧ iM_breaths.toInt ≤ 399) (b_iM_cutMany : 0 ≤ iM_cutMany.toInt ∧ iM_cutMany.toInt ≤ 399) (r_R : ROk fM_r) (r_C : iM_hasCourt.toInt ≤ 0 ∨ (1 ≤ (fM_r 1).toInt ∧ 0 ≤ (fM_r 6).toInt ∧ (fM_r 6).toInt < (fM_r 1).toInt)) (r_st : RowOk fM_r fM_st) (r_told : RowOk fM_r fM_told) (r_wst : WorOk fM_st)  : Met l yX7_orderLeast (Cond.code yX7_orderLeast cX7_orderLeast 2 (some .int) :: wG) ({ frames := 28, cells := 0, slots := 0, locals := 765 }) (va_Pc [.ref oM, .int p0] (Pw dC dI sz [(oc7 oM iM_thrown rM_tape iM_taped iM_size iM_at iM_end iM_token iM_whole iM_nameSize iM_fault iM_place iM_trouble rM_letters iM_failed iM_hasCourt rM_r rM_fresh rM_told rM_read rM_st rM_undone rM_kept iM_undos iM_images rM_fresher iM_fresherSize iM_scale iM_night rM_heardRow rM_cutRow iM_breaths iM_cutMany iM_allBreaths rM_trial rM_words iM_fewestBreaths iM_orderMany iM_orderSum iM_leastOrder rM_often iM_setMany iM_someOf iM_allOf iM_allWeight iM_enoughWeight iM_worthSum iM_firstRest iM_leastDrawn), (arI rM_r kM_r 287 fM_r), (arI rM_told kM_told 90 fM_told), (arI rM_st kM_st 90 fM_st), (arI rM_heardRow kM_heardRow 400 fM_heardRow), (arI rM_cutRow kM_cutRow 800 fM_cutRow), (arI rM_trial kM_trial 90 fM_trial)] [(kM_r, .int), (kM_told, .int), (kM_st, .int), (kM_heardRow, .int), (kM_cutRow, .int), (kM_trial, .int)])) (va_Qi (fun (r : Int32) (u : Nat) => (True ∧ True) ∧ r = Int32.ofNat u) (fun (u : Nat) (t : State) => ∃ (niM_thrown : Int32) (niM_trouble : Int32) (niM_breaths : Int32) (niM_cutMany : Int32) (niM_orderMany : Int32) (niM_orderSum : Int32) (niM_leastOrder : Int32) (nfM_heardRow : Nat → Int32) (nfM_cutRow : Nat → Int32) (nfM_trial : Nat → Int32), (0 ≤ niM_breaths.toInt ∧ niM_breaths.toInt ≤ 399) ∧ (0 ≤ niM_cutMany.toInt ∧ niM_cutMany.toInt ≤ 399) ∧ (PX7_orderLeast iM_hasCourt fM_r fM_told fM_st iM_scale fM_heardRow fM_cutRow iM_breaths iM_cutMany fM_trial iM_orderMany iM_orderSum iM_leastOrder p0 = (Int32.ofNat u, niM_thrown, niM_trouble, niM_breaths, niM_cutMany, niM_orderMany, niM_orderSum, niM_leastOrder, nfM_heardRow, nfM_cutRow, nfM_trial)) ∧ Bw dC dI (va_A [(oc7 oM iM_thrown rM_tape iM_taped iM_size iM_at iM_end iM_token iM_whole iM_nameSize iM_fault iM_place iM_trouble rM_letters iM_failed iM_hasCourt rM_r rM_fresh rM_told rM_read rM_st rM_undone rM_kept iM_undos iM_images rM_fresher iM_fresherSize iM_scale iM_night rM_heardRow rM_cutRow iM_breaths iM_cutMany iM_allBreaths rM_trial rM_words iM_fewestBreaths iM_orderMany iM_orderSum iM_leastOrder rM_often iM_setMany iM_someOf iM_allOf iM_allWeight iM_enoughWeight iM_worthSum iM_firstRest iM_leastDrawn), (arI rM_r kM_r 287 fM_r), (arI rM_told kM_told 90 fM_told), (arI rM_st kM_st 90 fM_st), (arI rM_heardRow kM_heardRow 400 fM_heardRow), (arI rM_cutRow kM_cutRow 800 fM_cutRow), (arI rM_trial kM_trial 90 fM_trial)] sz) [(oc7 oM niM_thrown rM_tape iM_taped iM_size iM_at iM_end iM_token iM_whole iM_nameSize iM_fault iM_place niM_trouble rM_letters iM_failed iM_hasCourt rM_r rM_fresh rM_told rM_read rM_st rM_undone rM_kept iM_undos iM_images rM_fresher iM_fresherSize iM_scale iM_night rM_heardRow rM_cutRow niM_breaths niM_cutMany iM_allBreaths rM_trial rM_words iM_fewestBreaths niM_orderMany niM_orderSum niM_leastOrder rM_often iM_setMany iM_someOf iM_allOf iM_allWeight iM_enoughWeight iM_worthSum iM_firstRest iM_leastDrawn), (arI rM_r kM_r 287 fM_r), (arI rM_told kM_told 90 fM_told), (arI rM_st kM_st 90 fM_st), (arI rM_heardRow kM_heardRow 400 nfM_heardRow), (arI rM_cutRow kM_cutRow 800 nfM_cutRow), (arI rM_trial kM_trial 90 nfM_trial)] [(kM_r, .int), (kM_told, .int), (kM_st, .int), (kM_heardRow, .int), (kM_cutRow, .int), (kM_trial, .int)] t) (va_A [(oc7 oM iM_thrown rM_tape iM_taped iM_size iM_at iM_end iM_token iM_whole iM_nameSize iM_fault iM_place iM_trouble rM_letters iM_failed iM_hasCourt rM_r rM_fresh rM_told rM_read rM_st rM_undone rM_kept iM_undos iM_images rM_fresher iM_fresherSize iM_scale iM_night rM_heardRow rM_cutRow iM_breaths iM_cutMany iM_allBreaths rM_trial rM_words iM_fewestBreaths iM_orderMany iM_orderSum iM_leastOrder rM_often iM_setMany iM_someOf iM_allOf iM_allWeight iM_enoughWeight iM_worthSum iM_firstRest iM_leastDrawn), (arI rM_r kM_r 287 fM_r), (arI rM_told kM_told 90 fM_told), (arI rM_st kM_st 90 fM_st), (arI rM_heardRow kM_heardRow 400 fM_heardRow), (arI rM_cutRow kM_cutRow 800 fM_cutRow), (arI rM_trial kM_trial 90 fM_trial)] sz)) 0 0 (va_A [(oc7 oM iM_thrown rM_tape iM_taped iM_size iM_at iM_end iM_token iM_whole iM_nameSize iM_fault iM_place iM_trouble rM_letters iM_failed iM_hasCourt rM_r rM_fresh rM_told rM_read rM_st rM_undone rM_kept iM_undos iM_images rM_fresher iM_fresherSize iM_scale iM_night rM_heardRow rM_cutRow iM_breaths iM_cutMany iM_allBreaths rM_trial rM_words iM_fewestBreaths iM_orderMany iM_orderSum iM_leastOrder rM_often iM_setMany iM_someOf iM_allOf iM_allWeight iM_enoughWeight iM_worthSum iM_firstRest iM_leastDrawn), (arI rM_r kM_r 287 fM_r), (arI rM_told kM_told 90 fM_told), (arI rM_st kM_st 90 fM_st), (arI rM_heardRow kM_heardRow 400 fM_heardRow), (arI rM_cutRow kM_cutRow 800 fM_cutRow), (arI rM_trial kM_trial 90 fM_trial)] sz) := by
  refine Met.ofW (cc := cX7_orderLeast) (maxL := 2) (ret := (some .int)) pnX7 rfl ?_
  intro p e s m args below meth c s₁ B hml hv
  obtain ⟨rfl, hsz, hP, hK, hD0, hE⟩ := hv
  have hx := B.exec
  have hb := B.bytes
  have hr := B.returns
  have hts : ∀ w ∈ wG, w.before ([.ref oM, .int p0] : List Value).toArray s = true := fun w h => atoms_spec (ws := Cond.code yX7_orderLeast cX7_orderLeast 2 (some .int) :: wG) B.pre w (List.mem_cons_of_mem _ h)
  have hown : s.vm.findClass RX7 = some m.cls := own_of B.named rfl
  have hlocks := B.notSynchronized
  subst hsz
  have hD := hD0.self (sz := s.heap.size)
  generalize hAe : va_A [(oc7 oM iM_thrown rM_tape iM_taped iM_size iM_at iM_end iM_token iM_whole iM_nameSize iM_fault iM_place iM_trouble rM_letters iM_failed iM_hasCourt rM_r rM_fresh rM_told rM_read rM_st rM_undone rM_kept iM_undos iM_images rM_fresher iM_fresherSize iM_scale iM_night rM_heardRow rM_cutRow iM_breaths iM_cutMany iM_allBreaths rM_trial rM_words iM_fewestBreaths iM_orderMany iM_orderSum iM_leastOrder rM_often iM_setMany iM_someOf iM_allOf iM_allWeight iM_enoughWeight iM_worthSum iM_firstRest iM_leastDrawn), (arI rM_r kM_r 287 fM_r), (arI rM_told kM_told 90 fM_told), (arI rM_st kM_st 90 fM_st), (arI rM_heardRow kM_heardRow 400 fM_heardRow), (arI rM_cutRow kM_cutRow 800 fM_cutRow), (arI rM_trial kM_trial 90 fM_trial)] s.heap.size = A at hD hE ⊢
  have hA : ∀ q : Nat, s.heap.size ≤ q → A q := fun q h => by rw [← hAe]; exact Or.inr h
  have hS : va_S A s.heap s.heap [] := va_S.rf
  have hl := lv_entry ([.ref oM, .int p0]) (n := 2) (Nat.le_of_ble_eq_true rfl)
  rw [lg_entry_eq]
  generalize (lg_sl ([.ref oM, .int p0]) ++ List.replicate (2 - (lg_sl ([.ref oM, .int p0])).length) Slot.unset).toArray = ls at hl ⊢
  have hl : lv_has ls 2 [(0, .ref oM), (1, .int p0)] := hl
  have hG := PX7_orderLeast_eq iM_hasCourt fM_r fM_told fM_st iM_scale fM_heardRow fM_cutRow iM_breaths iM_cutMany fM_trial iM_orderMany iM_orderSum iM_leastOrder p0
  have s_slips := r_R.slips
  have s_nodes := r_R.nodes
  have s_uns := r_R.uns
  refine lv_aload_n hx hb dX7_orderLeast_0 rfl (lv_at hl 0 rfl) ?_
  have hMs := ml_of hD [true, false, false, false, false, false, false] (wc := [(oc7 oM iM_thrown rM_tape iM_taped iM_size iM_at iM_end iM_token iM_whole iM_nameSize iM_fault iM_place iM_trouble rM_letters iM_failed iM_hasCourt rM_r rM_fresh rM_told rM_read rM_st rM_undone rM_kept iM_undos iM_images rM_fresher iM_fresherSize iM_scale iM_night rM_heardRow rM_cutRow iM_breaths iM_cutMany iM_allBreaths rM_trial rM_words iM_fewestBreaths iM_orderMany iM_orderSum iM_leastOrder rM_often iM_setMany iM_someOf iM_allOf iM_allWeight iM_enoughWeight iM_worthSum iM_firstRest iM_leastDrawn)]) rfl
  have hFc := va_freeM hD hS hA _ hMs
  refine va_callv (va_runV (As := []) (rest := []) ⟨hx, hb, hml, hown, hts⟩ (tX7_good l dC dI _ oM iM_thrown rM_tape iM_taped iM_size iM_at iM_end iM_token iM_whole iM_nameSize iM_fault iM_place iM_trouble rM_letters iM_failed iM_hasCourt rM_r rM_fresh rM_told rM_read rM_st rM_undone rM_kept iM_undos iM_images rM_fresher iM_fresherSize iM_scale iM_night rM_heardRow rM_cutRow iM_breaths iM_cutMany iM_allBreaths rM_trial rM_words iM_fewestBreaths iM_orderMany iM_orderSum iM_leastOrder rM_often iM_setMany iM_someOf iM_allOf iM_allWeight iM_enoughWeight iM_worthSum iM_firstRest iM_leastDrawn b_iM_taped b_iM_size b_iM_end b_iM_failed b_iM_hasCourt b_iM_undos b_iM_images b_iM_scale b_iM_breaths b_iM_cutMany) (cwV 0 hts (wd_V wd_388 wd_389 wd_390 wd_5 (wd_c wd_391)) rfl rfl rfl dv_yX7_good_0 ⟨Nat.le_of_ble_eq_true rfl, Nat.le_of_ble_eq_true rfl⟩) ⟨Pw.fb, recvX7 hK hP (q0 := 0) rfl, fun U hU hW => Pw.to (hP.ms _ hMs) (hD.ms _ hMs) (hK.ms [false, false, false, false, false, false] rfl) hE hS hFc hU hW⟩ rfl rfl hl.1 rfl (lv_room (Nat.le_of_ble_eq_true rfl)) dX7_orderLeast_1 ⟨Nat.le_of_ble_eq_true rfl, Nat.le_of_ble_eq_true rfl⟩) hS (fun q _ h => hFc q h) hFc (fun u t H locs ht hvm hw hB hz1 hk1 hS => ?_)
  refine ex_2_3 hB (fun x_4367 x_4368 b_x_4367 b_x_4368 e_x_4367_0 hB => ?_)
  obtain ⟨hP, hD⟩ := Bw.goN (ws' := [(oc7 oM x_4367 rM_tape iM_taped iM_size iM_at iM_end iM_token iM_whole iM_nameSize iM_fault iM_place x_4368 rM_letters iM_failed iM_hasCourt rM_r rM_fresh rM_told rM_read rM_st rM_undone rM_kept iM_undos iM_images rM_fresher iM_fresherSize iM_scale iM_night rM_heardRow rM_cutRow iM_breaths iM_cutMany iM_allBreaths rM_trial rM_words iM_fewestBreaths iM_orderMany iM_orderSum iM_leastOrder rM_often iM_setMany iM_someOf iM_allOf iM_allWeight iM_enoughWeight iM_worthSum iM_firstRest iM_leastDrawn), (arI rM_r kM_r 287 fM_r), (arI rM_told kM_told 90 fM_told), (arI rM_st kM_st 90 fM_st), (arI rM_heardRow kM_heardRow 400 fM_heardRow), (arI rM_cutRow kM_cutRow 800 fM_cutRow), (arI rM_trial kM_trial 90 fM_trial)]) hB rfl ht hP hD _ hMs hk1 hFc rfl
  clear hz1 hk1 hvm ht hB hMs
  have hG := hG.trans (un2_eq e_x_4367_0)
  refine lv_aload_n hx hb dX7_orderLeast_4 rfl (lv_at hl 0 rfl) ?_
  refine lv_iload_n hx hb dX7_orderLeast_5 rfl (lv_at hl 1 rfl) ?_
  have hMs := ml_of hD [true, true, false, false, false, false, false] (wc := [(oc7 oM x_4367 rM_tape iM_taped iM_size iM_at iM_end iM_token iM_whole iM_nameSize iM_fault iM_place x_4368 rM_letters iM_failed iM_hasCourt rM_r rM_fresh rM_told rM_read rM_st rM_undone rM_kept iM_undos iM_images rM_fresher iM_fresherSize iM_scale iM_night rM_heardRow rM_cutRow iM_breaths iM_cutMany iM_allBreaths rM_trial rM_words iM_fewestBreaths iM_orderMany iM_orderSum iM_leastOrder rM_often iM_setMany iM_someOf iM_allOf iM_allWeight iM_enoughWeight iM_worthSum iM_firstRest iM_leastDrawn), (arI rM_r kM_r 287 fM_r)]) rfl
  have hFc := va_freeM hD hS hA _ hMs
  refine va_calli (va_runV (As := [.int p0]) (rest := []) ⟨hx, hb, hml, hown, hts⟩ (tX7_isNode l dC dI _ oM x_4367 rM_tape iM_taped iM_size iM_at iM_end iM_token iM_whole iM_nameSize iM_fault iM_place x_4368 rM_letters iM_failed iM_hasCourt rM_r fM_r kM_r rM_fresh rM_told rM_read rM_st rM_undone rM_kept iM_undos iM_images rM_fresher iM_fresherSize iM_scale iM_night rM_heardRow rM_cutRow iM_breaths iM_cutMany iM_allBreaths rM_trial rM_words iM_fewestBreaths iM_orderMany iM_orderSum iM_leastOrder rM_often iM_setMany iM_someOf iM_allOf iM_allWeight iM_enoughWeight iM_worthSum iM_firstRest iM_leastDrawn p0 b_iM_taped b_iM_size b_iM_end b_iM_failed b_iM_hasCourt b_iM_undos b_iM_images b_iM_scale b_iM_breaths b_iM_cutMany (by assumption) (by assumption)) (cwV 1 hts (wd_V wd_544 wd_545 wd_546 wd_5 (wd_c wd_547)) rfl rfl rfl dv_yX7_isNode_1 ⟨Nat.le_of_ble_eq_true rfl, Nat.le_of_ble_eq_true rfl⟩) ⟨Pw.fb, recvX7 hK hP (q0 := 0) rfl, fun U hU hW => Pw.to (hP.ms _ hMs) (hD.ms _ hMs) (hK.ms [true, false, false, false, false, false] rfl) hE hS hFc hU hW⟩ rfl rfl hl.1 rfl (lv_room (Nat.le_of_ble_eq_true rfl)) dX7_orderLeast_6 ⟨Nat.le_of_ble_eq_true rfl, Nat.le_of_ble_eq_true rfl⟩) hS (fun q _ h => hFc q h) hFc (fun r u t H locs ht hvm hw hB hz1 hk1 hS => ?_)
  have hru9 := hw.2
  have hw := hw.1
  obtain ⟨hP, hD⟩ := Bw.goN (ws' := [(oc7 oM x_4367 rM_tape iM_taped iM_size iM_at iM_end iM_token iM_whole iM_nameSize iM_fault iM_place x_4368 rM_letters iM_failed iM_hasCourt rM_r rM_fresh rM_told rM_read rM_st rM_undone rM_kept iM_undos iM_images rM_fresher iM_fresherSize iM_scale iM_night rM_heardRow rM_cutRow iM_breaths iM_cutMany iM_allBreaths rM_trial rM_words iM_fewestBreaths iM_orderMany iM_orderSum iM_leastOrder rM_often iM_setMany iM_someOf iM_allOf iM_allWeight iM_enoughWeight iM_worthSum iM_firstRest iM_leastDrawn), (arI rM_r kM_r 287 fM_r), (arI rM_told kM_told 90 fM_told), (arI rM_st kM_st 90 fM_st), (arI rM_heardRow kM_heardRow 400 fM_heardRow), (arI rM_cutRow kM_cutRow 800 fM_cutRow), (arI rM_trial kM_trial 90 fM_trial)]) hB rfl ht hP hD _ hMs hk1 hFc rfl
  clear hz1 hk1 hvm ht hB hMs
  rcases hw.2 with ⟨rfl, hc_4369⟩ | ⟨rfl, hc_4369⟩
  · skip
    have hG := hG.trans (lt_eq hru9.symm)
    have hG := hG.trans (if_pos rfl)
    refine lv_if_ne (tgt := 18) hx hb dX7_orderLeast_9 (by decide) (fun _ => ?_) (fun c => absurd c (by decide))
    refine lv_aload_n hx hb dX7_orderLeast_18 rfl (lv_at hl 0 rfl) ?_
    refine lv_iload_n hx hb dX7_orderLeast_19 rfl (lv_at hl 1 rfl) ?_
    have hFc := va_freeI hD hS hA
    refine va_callv (va_runV (As := [.int p0]) (rest := []) ⟨hx, hb, hml, hown, hts⟩ (tX7_seekOrders l dC dI _ oM x_4367 rM_tape iM_taped iM_size iM_at iM_end iM_token iM_whole iM_nameSize iM_fault iM_place x_4368 rM_letters iM_failed iM_hasCourt rM_r fM_r kM_r rM_fresh rM_told fM_told kM_told rM_read rM_st fM_st kM_st rM_undone rM_kept iM_undos iM_images rM_fresher iM_fresherSize iM_scale iM_night rM_heardRow fM_heardRow kM_heardRow rM_cutRow fM_cutRow kM_cutRow iM_breaths iM_cutMany iM_allBreaths rM_trial fM_trial kM_trial rM_words iM_fewestBreaths iM_orderMany iM_orderSum iM_leastOrder rM_often iM_setMany iM_someOf iM_allOf iM_allWeight iM_enoughWeight iM_worthSum iM_firstRest iM_leastDrawn p0 b_iM_taped b_iM_size b_iM_end b_iM_failed b_iM_hasCourt b_iM_undos b_iM_images b_iM_scale b_iM_breaths b_iM_cutMany (by assumption) (by assumption) (by assumption) (by assumption) (by assumption) ⟨hc_4369.1, hc_4369.2.1⟩ ⟨hc_4369.2.2.2.1, hc_4369.2.2.2.2⟩) (cwV 1 hts (wd_V wd_1066 wd_1067 wd_1068 wd_5 (wd_c wd_1069)) rfl rfl rfl dv_yX7_seekOrders_1 ⟨Nat.le_of_ble_eq_true rfl, Nat.le_of_ble_eq_true rfl⟩) ⟨Pw.fb, recvX7 hK hP (q0 := 0) rfl, fun U hU hW => Pw.to hP hD hK hE hS hFc hU hW⟩ rfl rfl hl.1 rfl (lv_room (Nat.le_of_ble_eq_true rfl)) dX7_orderLeast_20 ⟨Nat.le_of_ble_eq_true rfl, Nat.le_of_ble_eq_true rfl⟩) hS (fun q _ h => hFc q h) hFc (fun u t H locs ht hvm hw hB hz1 hk1 hS => ?_)
    refine ex_8_4 hB (fun x_4372 x_4373 x_4374 x_4375 x_4376 f_4377 f_4378 f_4379 b_x_4372 b_x_4373 e_x_4372_0 e_x_4372_1 hB => ?_)
    obtain ⟨hP, hD⟩ := Bw.goA (ws' := [(oc7 oM x_4367 rM_tape iM_taped iM_size iM_at iM_end iM_token iM_whole iM_nameSize iM_fault iM_place x_4368 rM_letters iM_failed iM_hasCourt rM_r rM_fresh rM_told rM_read rM_st rM_undone rM_kept iM_undos iM_images rM_fresher iM_fresherSize iM_scale iM_night rM_heardRow rM_cutRow x_4372 x_4373 iM_allBreaths rM_trial rM_words iM_fewestBreaths x_4374 x_4375 x_4376 rM_often iM_setMany iM_someOf iM_allOf iM_allWeight iM_enoughWeight iM_worthSum iM_firstRest iM_leastDrawn), (arI rM_r kM_r 287 fM_r), (arI rM_told kM_told 90 fM_told), (arI rM_st kM_st 90 fM_st), (arI rM_heardRow kM_heardRow 400 f_4377), (arI rM_cutRow kM_cutRow 800 f_4378), (arI rM_trial kM_trial 90 f_4379)]) hB rfl ht hFc rfl
    clear hz1 hk1 hvm ht hB
    have hG := hG.trans (un8_eq e_x_4372_1)
    refine lv_aload_n hx hb dX7_orderLeast_23 rfl (lv_at hl 0 rfl) ?_
    refine va_get (D := (dC, dI)) (ci := 7) (v := .int x_4376) (C := RX7) (T := TX7) (N := 48) hx hb hts inX7 hown hK hP 0 rfl rfl 38 (by decide) (hts _ wd_1070) (fun _ h9 => h9) rfl dX7_orderLeast_24 ?_
    exact wq_i hx hb hr (cI x_4376) ⟨⟨trivial, trivial⟩, (cI_of x_4376)⟩ (fun t ht hW => ⟨x_4367, x_4368, x_4372, x_4373, x_4374, x_4375, x_4376, f_4377, f_4378, f_4379, b_x_4372, b_x_4373, (cI_tup hG), Bw.to hP hD hK ht hW⟩) hS dX7_orderLeast_27 hlocks
  · skip
    have hG := hG.trans (lt_eq hru9.symm)
    have hG := hG.trans (if_neg (by decide))
    refine lv_if_ne (tgt := 18) hx hb dX7_orderLeast_9 (by decide) (fun c => absurd c (by decide)) (fun _ => ?_)
    refine lv_aload_n hx hb dX7_orderLeast_12 rfl (lv_at hl 0 rfl) ?_
    refine lv_iconst (v := 1) hx hb dX7_orderLeast_13 (by decide) ?_
    have hMs := ml_of hD [true, false, false, false, false, false, false] (wc := [(oc7 oM x_4367 rM_tape iM_taped iM_size iM_at iM_end iM_token iM_whole iM_nameSize iM_fault iM_place x_4368 rM_letters iM_failed iM_hasCourt rM_r rM_fresh rM_told rM_read rM_st rM_undone rM_kept iM_undos iM_images rM_fresher iM_fresherSize iM_scale iM_night rM_heardRow rM_cutRow iM_breaths iM_cutMany iM_allBreaths rM_trial rM_words iM_fewestBreaths iM_orderMany iM_orderSum iM_leastOrder rM_often iM_setMany iM_someOf iM_allOf iM_allWeight iM_enoughWeight iM_worthSum iM_firstRest iM_leastDrawn)]) rfl
    have hFc := va_freeM hD hS hA _ hMs
    refine va_calli (va_runV (As := [.int 1]) (rest := []) ⟨hx, hb, hml, hown, hts⟩ (tX7_no l dC dI _ oM x_4367 rM_tape iM_taped iM_size iM_at iM_end iM_token iM_whole iM_nameSize iM_fault iM_place x_4368 rM_letters iM_failed iM_hasCourt rM_r rM_fresh rM_told rM_read rM_st rM_undone rM_kept iM_undos iM_images rM_fresher iM_fresherSize iM_scale iM_night rM_heardRow rM_cutRow iM_breaths iM_cutMany iM_allBreaths rM_trial rM_words iM_fewestBreaths iM_orderMany iM_orderSum iM_leastOrder rM_often iM_setMany iM_someOf iM_allOf iM_allWeight iM_enoughWeight iM_worthSum iM_firstRest iM_leastDrawn 1 b_iM_taped b_iM_size b_iM_end b_iM_failed b_iM_hasCourt b_iM_undos b_iM_images b_iM_scale b_iM_breaths b_iM_cutMany) (cwV 1 hts (wd_V wd_396 wd_397 wd_398 wd_5 (wd_c wd_399)) rfl rfl rfl dv_yX7_no_1 ⟨Nat.le_of_ble_eq_true rfl, Nat.le_of_ble_eq_true rfl⟩) ⟨Pw.fb, recvX7 hK hP (q0 := 0) rfl, fun U hU hW => Pw.to (hP.ms _ hMs) (hD.ms _ hMs) (hK.ms [false, false, false, false, false, false] rfl) hE hS hFc hU hW⟩ rfl rfl hl.1 rfl (lv_room (Nat.le_of_ble_eq_true rfl)) dX7_orderLeast_14 ⟨Nat.le_of_ble_eq_true rfl, Nat.le_of_ble_eq_true rfl⟩) hS (fun q _ h => hFc q h) hFc (fun r u t H locs ht hvm hw hB hz1 hk1 hS => ?_)
    have hru9 := hw.2
    have hw := hw.1
    refine ex_1_1 hB (fun x_4381 e_x_4381_0 hB => ?_)
    obtain ⟨hP, hD⟩ := Bw.goN (ws' := [(oc7 oM x_4367 rM_tape iM_taped iM_size iM_at iM_end iM_token iM_whole iM_nameSize iM_fault iM_place x_4381 rM_letters iM_failed iM_hasCourt rM_r rM_fresh rM_told rM_read rM_st rM_undone rM_kept iM_undos iM_images rM_fresher iM_fresherSize iM_scale iM_night rM_heardRow rM_cutRow iM_breaths iM_cutMany iM_allBreaths rM_trial rM_words iM_fewestBreaths iM_orderMany iM_orderSum iM_leastOrder rM_often iM_setMany iM_someOf iM_allOf iM_allWeight iM_enoughWeight iM_worthSum iM_firstRest iM_leastDrawn), (arI rM_r kM_r 287 fM_r), (arI rM_told kM_told 90 fM_told), (arI rM_st kM_st 90 fM_st), (arI rM_heardRow kM_heardRow 400 fM_heardRow), (arI rM_cutRow kM_cutRow 800 fM_cutRow), (arI rM_trial kM_trial 90 fM_trial)]) hB rfl ht hP hD _ hMs hk1 hFc rfl
    clear hz1 hk1 hvm ht hB hMs
    rw [← hru9] at e_x_4381_0
    obtain ⟨x_4382, rfl⟩ : ∃ z, z = r := ⟨_, rfl⟩
    have hG := hG.trans (un2_eq e_x_4381_0)
    exact wq_i hx hb hr (cI x_4382) ⟨⟨trivial, trivial⟩, (cI_of x_4382)⟩ (fun t ht hW => ⟨x_4367, x_4381, iM_breaths, iM_cutMany, iM_orderMany, iM_orderSum, iM_leastOrder, fM_heardRow, fM_cutRow, fM_trial, ⟨b_iM_breaths.1, b_iM_breaths.2⟩, ⟨b_iM_cutMany.1, b_iM_cutMany.2⟩, (cI_tup hG), Bw.to hP hD hK ht hW⟩) hS dX7_orderLeast_17 hlocks
