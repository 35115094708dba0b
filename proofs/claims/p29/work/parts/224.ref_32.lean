set_option maxHeartbeats 4000000 in
set_option maxRecDepth 100000 in
theorem tX7_hear_n (l : Launch) (dC : Nat → ClassId) (dI : Nat → Nat → Nat) : ∀ (n9 : Nat) (sz : Nat) (oM : Nat) (iM_thrown : Int32) (rM_tape : Nat) (iM_taped : Int32) (iM_size : Int32) (iM_at : Int32) (iM_end : Int32) (iM_token : Int32) (iM_whole : Int32) (iM_nameSize : Int32) (iM_fault : Int32) (iM_place : Int32) (iM_trouble : Int32) (rM_letters : Nat) (iM_failed : Int32) (iM_hasCourt : Int32) (rM_r : Nat) (fM_r : Nat → Int32) (kM_r : ClassId) (rM_fresh : Nat) (rM_told : Nat) (fM_told : Nat → Int32) (kM_told : ClassId) (rM_read : Nat) (rM_st : Nat) (rM_undone : Nat) (rM_kept : Nat) (iM_undos : Int32) (iM_images : Int32) (rM_fresher : Nat) (iM_fresherSize : Int32) (iM_scale : Int32) (iM_night : Int32) (rM_heardRow : Nat) (fM_heardRow : Nat → Int32) (kM_heardRow : ClassId) (rM_cutRow : Nat) (fM_cutRow : Nat → Int32) (kM_cutRow : ClassId) (iM_breaths : Int32) (iM_cutMany : Int32) (iM_allBreaths : Int32) (rM_trial : Nat) (rM_words : Nat) (iM_fewestBreaths : Int32) (iM_orderMany : Int32) (iM_orderSum : Int32) (iM_leastOrder : Int32) (rM_often : Nat) (iM_setMany : Int32) (iM_someOf : Int32) (iM_allOf : Int32) (iM_allWeight : Int64) (iM_enoughWeight : Int64) (iM_worthSum : Int64) (iM_firstRest : Int32) (iM_leastDrawn : Int32) (rQ : Nat) (fQ : Nat → Int32) (kQ : ClassId) (p0 : Int32) (p1 : Int32) (p2 : Int32) (b_iM_taped : 0 ≤ iM_taped.toInt ∧ iM_taped.toInt ≤ 900) (b_iM_size : 0 ≤ iM_size.toInt ∧ iM_size.toInt ≤ 900) (b_iM_end : 0 ≤ iM_end.toInt ∧ iM_end.toInt ≤ 900) (b_iM_failed : 0 ≤ iM_failed.toInt ∧ iM_failed.toInt ≤ 1) (b_iM_hasCourt : 0 ≤ iM_hasCourt.toInt ∧ iM_hasCourt.toInt ≤ 1) (b_iM_undos : 0 ≤ iM_undos.toInt ∧ iM_undos.toInt ≤ 16) (b_iM_images : 0 ≤ iM_images.toInt ∧ iM_images.toInt ≤ 3) (b_iM_scale : 1 ≤ iM_scale.toInt ∧ iM_scale.toInt ≤ 1296) (b_iM_breaths : 0 ≤ iM_breaths.toInt ∧ iM_breaths.toInt ≤ 399) (b_iM_cutMany : 0 ≤ iM_cutMany.toInt ∧ iM_cutMany.toInt ≤ 399) (r_R : ROk fM_r) (r_C : iM_hasCourt.toInt ≤ 0 ∨ (1 ≤ (fM_r 1).toInt ∧ 0 ≤ (fM_r 6).toInt ∧ (fM_r 6).toInt < (fM_r 1).toInt)) (r_told : RowOk fM_r fM_told) (r_Q : RowOk fM_r fQ) (hk0 : 0 ≤ p0.toInt ∧ p0.toInt < (fM_r 1).toInt) (hbr : iM_breaths.toInt + iM_cutMany.toInt + (wgt fM_r p0.toNatClampNeg : Int) ≤ 399) (hn9 : p0.toInt < (n9 : Int)), Met l yX7_hear (Cond.code yX7_hear cX7_hear 11 (some .int) :: wG) ({ frames := 1 + n9, cells := 0, slots := 0, locals := 10 + 30 * n9 }) (va_Pc [.ref oM, .ref rQ, .int p0, .int p1, .int p2] (Pw dC dI sz [(oc7 oM iM_thrown rM_tape iM_taped iM_size iM_at iM_end iM_token iM_whole iM_nameSize iM_fault iM_place iM_trouble rM_letters iM_failed iM_hasCourt rM_r rM_fresh rM_told rM_read rM_st rM_undone rM_kept iM_undos iM_images rM_fresher iM_fresherSize iM_scale iM_night rM_heardRow rM_cutRow iM_breaths iM_cutMany iM_allBreaths rM_trial rM_words iM_fewestBreaths iM_orderMany iM_orderSum iM_leastOrder rM_often iM_setMany iM_someOf iM_allOf iM_allWeight iM_enoughWeight iM_worthSum iM_firstRest iM_leastDrawn), (arI rM_r kM_r 287 fM_r), (arI rM_told kM_told 90 fM_told), (arI rM_heardRow kM_heardRow 400 fM_heardRow), (arI rM_cutRow kM_cutRow 800 fM_cutRow), (arI rQ kQ 90 fQ)] [(kM_r, .int), (kM_told, .int), (kM_heardRow, .int), (kM_cutRow, .int), (kQ, .int)])) (va_Qi (fun (r : Int32) (u : Nat) => (True ∧ True) ∧ r = Int32.ofNat u) (fun (u : Nat) (t : State) => ∃ (niM_breaths : Int32) (niM_cutMany : Int32) (nfM_heardRow : Nat → Int32) (nfM_cutRow : Nat → Int32), (0 ≤ niM_breaths.toInt ∧ niM_breaths.toInt ≤ 399) ∧ (0 ≤ niM_cutMany.toInt ∧ niM_cutMany.toInt ≤ 399) ∧ (niM_breaths.toInt + niM_cutMany.toInt ≤ iM_breaths.toInt + iM_cutMany.toInt + (wgt fM_r p0.toNatClampNeg : Int)) ∧ (PX7_hear n9 fM_r fM_told iM_scale fQ iM_breaths iM_cutMany fM_heardRow fM_cutRow p0 p1 p2 = (Int32.ofNat u, niM_breaths, niM_cutMany, nfM_heardRow, nfM_cutRow)) ∧ Bw dC dI (va_A [(oc7 oM iM_thrown rM_tape iM_taped iM_size iM_at iM_end iM_token iM_whole iM_nameSize iM_fault iM_place iM_trouble rM_letters iM_failed iM_hasCourt rM_r rM_fresh rM_told rM_read rM_st rM_undone rM_kept iM_undos iM_images rM_fresher iM_fresherSize iM_scale iM_night rM_heardRow rM_cutRow iM_breaths iM_cutMany iM_allBreaths rM_trial rM_words iM_fewestBreaths iM_orderMany iM_orderSum iM_leastOrder rM_often iM_setMany iM_someOf iM_allOf iM_allWeight iM_enoughWeight iM_worthSum iM_firstRest iM_leastDrawn), (arI rM_r kM_r 287 fM_r), (arI rM_told kM_told 90 fM_told), (arI rM_heardRow kM_heardRow 400 fM_heardRow), (arI rM_cutRow kM_cutRow 800 fM_cutRow), (arI rQ kQ 90 fQ)] sz) [(oc7 oM iM_thrown rM_tape iM_taped iM_size iM_at iM_end iM_token iM_whole iM_nameSize iM_fault iM_place iM_trouble rM_letters iM_failed iM_hasCourt rM_r rM_fresh rM_told rM_read rM_st rM_undone rM_kept iM_undos iM_images rM_fresher iM_fresherSize iM_scale iM_night rM_heardRow rM_cutRow niM_breaths niM_cutMany iM_allBreaths rM_trial rM_words iM_fewestBreaths iM_orderMany iM_orderSum iM_leastOrder rM_often iM_setMany iM_someOf iM_allOf iM_allWeight iM_enoughWeight iM_worthSum iM_firstRest iM_leastDrawn), (arI rM_r kM_r 287 fM_r), (arI rM_told kM_told 90 fM_told), (arI rM_heardRow kM_heardRow 400 nfM_heardRow), (arI rM_cutRow kM_cutRow 800 nfM_cutRow), (arI rQ kQ 90 fQ)] [(kM_r, .int), (kM_told, .int), (kM_heardRow, .int), (kM_cutRow, .int), (kQ, .int)] t) (va_A [(oc7 oM iM_thrown rM_tape iM_taped iM_size iM_at iM_end iM_token iM_whole iM_nameSize iM_fault iM_place iM_trouble rM_letters iM_failed iM_hasCourt rM_r rM_fresh rM_told rM_read rM_st rM_undone rM_kept iM_undos iM_images rM_fresher iM_fresherSize iM_scale iM_night rM_heardRow rM_cutRow iM_breaths iM_cutMany iM_allBreaths rM_trial rM_words iM_fewestBreaths iM_orderMany iM_orderSum iM_leastOrder rM_often iM_setMany iM_someOf iM_allOf iM_allWeight iM_enoughWeight iM_worthSum iM_firstRest iM_leastDrawn), (arI rM_r kM_r 287 fM_r), (arI rM_told kM_told 90 fM_told), (arI rM_heardRow kM_heardRow 400 fM_heardRow), (arI rM_cutRow kM_cutRow 800 fM_cutRow), (arI rQ kQ 90 fQ)] sz)) 0 0 (va_A [(oc7 oM iM_thrown rM_tape iM_taped iM_size iM_at iM_end iM_token iM_whole iM_nameSize iM_fault iM_place iM_trouble rM_letters iM_failed iM_hasCourt rM_r rM_fresh rM_told rM_read rM_st rM_undone rM_kept iM_undos iM_images rM_fresher iM_fresherSize iM_scale iM_night rM_heardRow rM_cutRow iM_breaths iM_cutMany iM_allBreaths rM_trial rM_words iM_fewestBreaths iM_orderMany iM_orderSum iM_leastOrder rM_often iM_setMany iM_someOf iM_allOf iM_allWeight iM_enoughWeight iM_worthSum iM_firstRest iM_leastDrawn), (arI rM_r kM_r 287 fM_r), (arI rM_told kM_told 90 fM_told), (arI rM_heardRow kM_heardRow 400 fM_heardRow), (arI rM_cutRow kM_cutRow 800 fM_cutRow), (arI rQ kQ 90 fQ)] sz) := by
  intro n9
  induction n9 with
  | zero => intro sz oM iM_thrown rM_tape iM_taped iM_size iM_at iM_end iM_token iM_whole iM_nameSize iM_fault iM_place iM_trouble rM_letters iM_failed iM_hasCourt rM_r fM_r kM_r rM_fresh rM_told fM_told kM_told rM_read rM_st rM_undone rM_kept iM_undos iM_images rM_fresher iM_fresherSize iM_scale iM_night rM_heardRow fM_heardRow kM_heardRow rM_cutRow fM_cutRow kM_cutRow iM_breaths iM_cutMany iM_allBreaths rM_trial rM_words iM_fewestBreaths iM_orderMany iM_orderSum iM_leastOrder rM_often iM_setMany iM_someOf iM_allOf iM_allWeight iM_enoughWeight iM_worthSum iM_firstRest iM_leastDrawn rQ fQ kQ p0 p1 p2 b_iM_taped b_iM_size b_iM_end b_iM_failed b_iM_hasCourt b_iM_undos b_iM_images b_iM_scale b_iM_breaths b_iM_cutMany r_R r_C r_told r_Q hk0 hbr hn9; exact absurd hn9 (by omega)
  | succ n9 ih9 =>
    intro sz oM iM_thrown rM_tape iM_taped iM_size iM_at iM_end iM_token iM_whole iM_nameSize iM_fault iM_place iM_trouble rM_letters iM_failed iM_hasCourt rM_r fM_r kM_r rM_fresh rM_told fM_told kM_told rM_read rM_st rM_undone rM_kept iM_undos iM_images rM_fresher iM_fresherSize iM_scale iM_night rM_heardRow fM_heardRow kM_heardRow rM_cutRow fM_cutRow kM_cutRow iM_breaths iM_cutMany iM_allBreaths rM_trial rM_words iM_fewestBreaths iM_orderMany iM_orderSum iM_leastOrder rM_often iM_setMany iM_someOf iM_allOf iM_allWeight iM_enoughWeight iM_worthSum iM_firstRest iM_leastDrawn rQ fQ kQ p0 p1 p2 b_iM_taped b_iM_size b_iM_end b_iM_failed b_iM_hasCourt b_iM_undos b_iM_images b_iM_scale b_iM_breaths b_iM_cutMany r_R r_C r_told r_Q hk0 hbr hn9
    refine Met.ofW (cc := cX7_hear) (maxL := 11) (ret := (some .int)) pnX7 rfl ?_
    intro p e s m args below meth c s₁ B hml hv
    obtain ⟨rfl, hsz, hP, hK, hD0, hE⟩ := hv
    have hx := B.exec
    have hb := B.bytes
    have hr := B.returns
    have hts : ∀ w ∈ wG, w.before ([.ref oM, .ref rQ, .int p0, .int p1, .int p2] : List Value).toArray s = true := fun w h => atoms_spec (ws := Cond.code yX7_hear cX7_hear 11 (some .int) :: wG) B.pre w (List.mem_cons_of_mem _ h)
    have hown : s.vm.findClass RX7 = some m.cls := own_of B.named rfl
    have hlocks := B.notSynchronized
    subst hsz
    have hD := hD0.self (sz := s.heap.size)
    generalize hAe : va_A [(oc7 oM iM_thrown rM_tape iM_taped iM_size iM_at iM_end iM_token iM_whole iM_nameSize iM_fault iM_place iM_trouble rM_letters iM_failed iM_hasCourt rM_r rM_fresh rM_told rM_read rM_st rM_undone rM_kept iM_undos iM_images rM_fresher iM_fresherSize iM_scale iM_night rM_heardRow rM_cutRow iM_breaths iM_cutMany iM_allBreaths rM_trial rM_words iM_fewestBreaths iM_orderMany iM_orderSum iM_leastOrder rM_often iM_setMany iM_someOf iM_allOf iM_allWeight iM_enoughWeight iM_worthSum iM_firstRest iM_leastDrawn), (arI rM_r kM_r 287 fM_r), (arI rM_told kM_told 90 fM_told), (arI rM_heardRow kM_heardRow 400 fM_heardRow), (arI rM_cutRow kM_cutRow 800 fM_cutRow), (arI rQ kQ 90 fQ)] s.heap.size = A at hD hE ⊢
    have hA : ∀ q : Nat, s.heap.size ≤ q → A q := fun q h => by rw [← hAe]; exact Or.inr h
    have hS : va_S A s.heap s.heap [] := va_S.rf
    have hl := lv_entry ([.ref oM, .ref rQ, .int p0, .int p1, .int p2]) (n := 11) (Nat.le_of_ble_eq_true rfl)
    rw [lg_entry_eq]
    generalize (lg_sl ([.ref oM, .ref rQ, .int p0, .int p1, .int p2]) ++ List.replicate (11 - (lg_sl ([.ref oM, .ref rQ, .int p0, .int p1, .int p2])).length) Slot.unset).toArray = ls at hl ⊢
    have hl : lv_has ls 11 [(0, .ref oM), (1, .ref rQ), (2, .int p0), (3, .int p1), (4, .int p2)] := hl
    have hG := PX7_hear_eq n9 fM_r fM_told iM_scale fQ iM_breaths iM_cutMany fM_heardRow fM_cutRow p0 p1 p2
    have s_slips := r_R.slips
    have s_nodes := r_R.nodes
    have s_uns := r_R.uns
    have q_p0 := ti_cl (x := p0) rfl hk0.1
    have mn_p0 := r_R.many (27 + p0.toNatClampNeg) (Nat.le_add_right _ _) (om_6c263690 (ti_cl (x := p0) rfl hk0.1) hk0.2 s_nodes.2)
    have kn_p0 := r_R.kind (9 + p0.toNatClampNeg) (Nat.le_add_right _ _) (om_57ce868b (ti_cl (x := p0) rfl hk0.1) hk0.2 s_nodes.2)
    have in_p0 := r_R.inner p0.toNatClampNeg (om_05d4ad0a (ti_cl (x := p0) rfl hk0.1) hk0.2)
    have wi_p0 := wgt_in fM_r p0.toNatClampNeg
    refine lv_aload_n hx hb dX7_hear_0 rfl (lv_at hl 0 rfl) ?_
    refine va_get (D := (dC, dI)) (ci := 7) (v := .ref rM_r) (C := RX7) (T := TX7) (N := 48) hx hb hts inX7 hown hK hP 0 rfl rfl 15 (by decide) (hts _ wd_155) (fun _ h9 => h9) rfl dX7_hear_1 ?_
    refine lv_bipush (v := 9) hx hb dX7_hear_4 (by decide) ?_
    refine lv_iload_n hx hb dX7_hear_6 rfl (lv_at hl 2 rfl) ?_
    refine lv_iadd hx hb dX7_hear_7 ?_
    refine lv_topi (fun x_364 ex_364 => ?_)
    have hG := hG.trans (lt_eq ex_364)
    have vx_364 : x_364.toInt = p0.toInt + 9 := om_296ce4dd (ti_add ex_364 kc_9 rfl (om_090bbef4 hk0.1) (om_79f05b99 hk0.2 s_nodes.2))
    refine va_iald hx hb hK hP 1 0 rfl rfl (ti_in vx_364 (om_edbe2e4c hk0.1) (om_c4df49a1 hk0.2 s_nodes.2)) dX7_hear_8 ?_
    refine lv_topi (fun x_365 ex_365 => ?_)
    have hG := hG.trans (lt_eq ex_365)
    have kx_365 : (fM_r x_364.toNatClampNeg).toInt = x_365.toInt := by rw [ex_365]
    have cx_365 : (fM_r (9 + p0.toNatClampNeg)).toInt = x_365.toInt := by rw [show 9 + p0.toNatClampNeg = x_364.toNatClampNeg from (om_32f1c3e7 (ti_cl (x := p0) rfl hk0.1) (ti_cl (x := x_364) vx_364 (om_edbe2e4c hk0.1)))]; exact kx_365
    have sx_365 := r_R.kind x_364.toNatClampNeg (om_462cc4af (ti_cl (x := x_364) vx_364 (om_edbe2e4c hk0.1)) hk0.1) (om_7afb9f20 (ti_cl (x := x_364) vx_364 (om_edbe2e4c hk0.1)) hk0.2 s_nodes.2)
    refine lv_istore (lv' := [(5, .int x_365), (0, .ref oM), (1, .ref rQ), (2, .int p0), (3, .int p1), (4, .int p2)]) hx hb dX7_hear_9 hl (by decide) rfl (fun ls hl => ?_)
    refine lv_iload hx hb dX7_hear_11 (lv_at hl 0 rfl) ?_
    refine lv_if_ne (tgt := 48) hx hb dX7_hear_13 (by decide) (fun c_366 => ?_) (fun c_366 => ?_)
    · skip
      have hG := hG.trans (if_neg c_366)
      have gc_366 := ti_ne c_366 rfl kc_0
      refine lv_iload hx hb dX7_hear_48 (lv_at hl 0 rfl) ?_
      refine lv_iconst (v := 2) hx hb dX7_hear_50 (by decide) ?_
      refine lv_icmp_ne (tgt := 59) hx hb dX7_hear_51 (by decide) (fun c_367 => ?_) (fun c_367 => ?_)
      · skip
        have hG := hG.trans (if_neg c_367)
        have gc_367 := ti_ne c_367 rfl kc_2
        refine lv_iload hx hb dX7_hear_59 (lv_at hl 0 rfl) ?_
        refine lv_iconst (v := 1) hx hb dX7_hear_61 (by decide) ?_
        refine lv_icmp_ne (tgt := 70) hx hb dX7_hear_62 (by decide) (fun c_368 => ?_) (fun c_368 => ?_)
        · skip
          have hG := hG.trans (if_neg c_368)
          have gc_368 := ti_ne c_368 rfl kc_1
          refine lv_iconst (v := 0) hx hb dX7_hear_70 (by decide) ?_
          refine lv_istore (lv' := [(6, .int 0), (5, .int x_365), (0, .ref oM), (1, .ref rQ), (2, .int p0), (3, .int p1), (4, .int p2)]) hx hb dX7_hear_71 hl (by decide) rfl (fun ls hl => ?_)
          refine lv_aload_n hx hb dX7_hear_73 rfl (lv_at hl 2 rfl) ?_
          refine va_get (D := (dC, dI)) (ci := 7) (v := .ref rM_r) (C := RX7) (T := TX7) (N := 48) hx hb hts inX7 hown hK hP 0 rfl rfl 15 (by decide) (hts _ wd_155) (fun _ h9 => h9) rfl dX7_hear_74 ?_
          refine lv_bipush (v := 27) hx hb dX7_hear_77 (by decide) ?_
          refine lv_iload_n hx hb dX7_hear_79 rfl (lv_at hl 4 rfl) ?_
          refine lv_iadd hx hb dX7_hear_80 ?_
          refine lv_topi (fun x_369 ex_369 => ?_)
          have hG := hG.trans (lt_eq ex_369)
          have vx_369 : x_369.toInt = p0.toInt + 27 := om_6c48219a (ti_add ex_369 kc_27 rfl (om_edd3f7cf hk0.1) (om_cf6669ce hk0.2 s_nodes.2))
          refine va_iald hx hb hK hP 1 0 rfl rfl (ti_in vx_369 (om_b4b48b7f hk0.1) (om_420abfc6 hk0.2 s_nodes.2)) dX7_hear_81 ?_
          refine lv_topi (fun x_370 ex_370 => ?_)
          have hG := hG.trans (lt_eq ex_370)
          have kx_370 : (fM_r x_369.toNatClampNeg).toInt = x_370.toInt := by rw [ex_370]
          have cx_370 : (fM_r (27 + p0.toNatClampNeg)).toInt = x_370.toInt := by rw [show 27 + p0.toNatClampNeg = x_369.toNatClampNeg from (om_779a3124 (ti_cl (x := p0) rfl hk0.1) (ti_cl (x := x_369) vx_369 (om_b4b48b7f hk0.1)))]; exact kx_370
          have sx_370 := r_R.many x_369.toNatClampNeg (om_ab5399c3 (ti_cl (x := x_369) vx_369 (om_b4b48b7f hk0.1)) hk0.1) (om_3b68d876 (ti_cl (x := x_369) vx_369 (om_b4b48b7f hk0.1)) hk0.2 s_nodes.2)
          refine lv_istore (lv' := [(7, .int x_370), (6, .int 0), (5, .int x_365), (0, .ref oM), (1, .ref rQ), (2, .int p0), (3, .int p1), (4, .int p2)]) hx hb dX7_hear_82 hl (by decide) rfl (fun ls hl => ?_)
          refine lv_iconst (v := 0) hx hb dX7_hear_84 (by decide) ?_
          refine lv_istore (lv' := [(8, .int 0), (7, .int x_370), (6, .int 0), (5, .int x_365), (0, .ref oM), (1, .ref rQ), (2, .int p0), (3, .int p1), (4, .int p2)]) hx hb dX7_hear_85 hl (by decide) rfl (fun ls hl => ?_)
          have hl := lv_sub hl (l' := [(8, .int 0), (7, .int x_370), (6, .int 0), (5, .int x_365), (0, .ref oM), (1, .ref rQ), (2, .int p0), (3, .int p1), (4, .int p2)]) [0, 1, 2, 3, 4, 5, 6, 7, 8] rfl
          have key_n_377 : ∀ (n_377 : Nat) (z_371 : Int32) (z_372 : Int32) (z_373 : Int32) (z_374 : Int32) (f_375 : Nat → Int32) (f_376 : Nat → Int32) (H : Heap) (locs : List Loc) (ls : Array Slot), (0 ≤ z_373.toInt ∧ z_373.toInt ≤ 399) → (0 ≤ z_374.toInt ∧ z_374.toInt ≤ 399) → (0 ≤ z_371.toInt ∧ z_371.toInt ≤ (fM_r (27 + p0.toNatClampNeg)).toInt) → (z_373.toInt + z_374.toInt ≤ iM_breaths.toInt + iM_cutMany.toInt + (rsum fM_r fQ p0.toNatClampNeg (z_371.toNatClampNeg) : Int)) → ((fM_r (27 + p0.toNatClampNeg)).toInt - z_371.toInt).toNat < n_377 → (PX7_hear (n9 + 1) fM_r fM_told iM_scale fQ iM_breaths iM_cutMany fM_heardRow fM_cutRow p0 p1 p2 = HX7_hear_2 (PX7_hear n9) fM_r fM_told iM_scale fQ p0 p1 p2 x_365 x_370 n_377 z_371 z_372 z_373 z_374 f_375 f_376) → va_P (dC, dI) vwCl [(oc7 oM iM_thrown rM_tape iM_taped iM_size iM_at iM_end iM_token iM_whole iM_nameSize iM_fault iM_place iM_trouble rM_letters iM_failed iM_hasCourt rM_r rM_fresh rM_told rM_read rM_st rM_undone rM_kept iM_undos iM_images rM_fresher iM_fresherSize iM_scale iM_night rM_heardRow rM_cutRow z_373 z_374 iM_allBreaths rM_trial rM_words iM_fewestBreaths iM_orderMany iM_orderSum iM_leastOrder rM_often iM_setMany iM_someOf iM_allOf iM_allWeight iM_enoughWeight iM_worthSum iM_firstRest iM_leastDrawn), (arI rM_r kM_r 287 fM_r), (arI rM_told kM_told 90 fM_told), (arI rM_heardRow kM_heardRow 400 f_375), (arI rM_cutRow kM_cutRow 800 f_376), (arI rQ kQ 90 fQ)] H → va_D A [(oc7 oM iM_thrown rM_tape iM_taped iM_size iM_at iM_end iM_token iM_whole iM_nameSize iM_fault iM_place iM_trouble rM_letters iM_failed iM_hasCourt rM_r rM_fresh rM_told rM_read rM_st rM_undone rM_kept iM_undos iM_images rM_fresher iM_fresherSize iM_scale iM_night rM_heardRow rM_cutRow z_373 z_374 iM_allBreaths rM_trial rM_words iM_fewestBreaths iM_orderMany iM_orderSum iM_leastOrder rM_often iM_setMany iM_someOf iM_allOf iM_allWeight iM_enoughWeight iM_worthSum iM_firstRest iM_leastDrawn), (arI rM_r kM_r 287 fM_r), (arI rM_told kM_told 90 fM_told), (arI rM_heardRow kM_heardRow 400 f_375), (arI rM_cutRow kM_cutRow 800 f_376), (arI rQ kQ 90 fQ)] → va_S A s.heap H locs → lv_has ls 11 [(8, .int z_371), (7, .int x_370), (6, .int z_372), (5, .int x_365), (0, .ref oM), (1, .ref rQ), (2, .int p0), (3, .int p1), (4, .int p2)] → W p l e (headSpec (Cond.code yX7_hear cX7_hear 11 (some .int) :: wG) ({ frames := 1 + (n9 + 1), cells := 0, slots := 0, locals := 10 + 30 * (n9 + 1) })).room s m ([.ref oM, .ref rQ, .int p0, .int p1, .int p2] : List Value).toArray below meth c H locs 0 0 (MQ below (va_Qi (fun (r : Int32) (u : Nat) => (True ∧ True) ∧ r = Int32.ofNat u) (fun (u : Nat) (t : State) => ∃ (niM_breaths : Int32) (niM_cutMany : Int32) (nfM_heardRow : Nat → Int32) (nfM_cutRow : Nat → Int32), (0 ≤ niM_breaths.toInt ∧ niM_breaths.toInt ≤ 399) ∧ (0 ≤ niM_cutMany.toInt ∧ niM_cutMany.toInt ≤ 399) ∧ (niM_breaths.toInt + niM_cutMany.toInt ≤ iM_breaths.toInt + iM_cutMany.toInt + (wgt fM_r p0.toNatClampNeg : Int)) ∧ (PX7_hear (n9 + 1) fM_r fM_told iM_scale fQ iM_breaths iM_cutMany fM_heardRow fM_cutRow p0 p1 p2 = (Int32.ofNat u, niM_breaths, niM_cutMany, nfM_heardRow, nfM_cutRow)) ∧ Bw dC dI A [(oc7 oM iM_thrown rM_tape iM_taped iM_size iM_at iM_end iM_token iM_whole iM_nameSize iM_fault iM_place iM_trouble rM_letters iM_failed iM_hasCourt rM_r rM_fresh rM_told rM_read rM_st rM_undone rM_kept iM_undos iM_images rM_fresher iM_fresherSize iM_scale iM_night rM_heardRow rM_cutRow niM_breaths niM_cutMany iM_allBreaths rM_trial rM_words iM_fewestBreaths iM_orderMany iM_orderSum iM_leastOrder rM_often iM_setMany iM_someOf iM_allOf iM_allWeight iM_enoughWeight iM_worthSum iM_firstRest iM_leastDrawn), (arI rM_r kM_r 287 fM_r), (arI rM_told kM_told 90 fM_told), (arI rM_heardRow kM_heardRow 400 nfM_heardRow), (arI rM_cutRow kM_cutRow 800 nfM_cutRow), (arI rQ kQ 90 fQ)] [(kM_r, .int), (kM_told, .int), (kM_heardRow, .int), (kM_cutRow, .int), (kQ, .int)] t) A) ([.ref oM, .ref rQ, .int p0, .int p1, .int p2] : List Value).toArray s 0 0 A) (F0 m 87 ls []) := by
            intro n_377
            induction n_377 with
            | zero => intro z_371 z_372 z_373 z_374 f_375 f_376 H locs ls b_z_373 b_z_374 hi0_n_377 hi1_n_377 hm; exact absurd hm (Nat.not_lt_zero _)
            | succ n_377 ih_n_377 =>
              intro z_371 z_372 z_373 z_374 f_375 f_376 H locs ls b_z_373 b_z_374 hi0_n_377 hi1_n_377 hm_n_377 hG hP hD hS hl
              have hG := hG.trans (HX7_hear_2_eq _ _ _ _ _ _ _ _ _ _ _ _ _ _ _ _ _)
              have gp_z_371 := rsum_gap r_R r_Q (k := p0.toNatClampNeg) (i := z_371.toNatClampNeg) (m := (fM_r (27 + p0.toNatClampNeg)).toInt.toNat) (by have q_1 := ti_cl (x := p0) rfl hk0.1; omega) (by omega) (by omega) (by have q_2 := ti_cl (x := z_371) rfl (by omega); omega)
              have q_z_371 := ti_cl (x := z_371) rfl (by omega)
              refine lv_iload hx hb dX7_hear_87 (lv_at hl 0 rfl) ?_
              refine lv_iload hx hb dX7_hear_89 (lv_at hl 1 rfl) ?_
              refine lv_icmp_ge (tgt := 270) hx hb dX7_hear_91 (by decide) (fun c_378 => ?_) (fun c_378 => ?_)
              · skip
                have hG := hG.trans (if_pos c_378)
                have gc_378 := ti_le c_378 rfl rfl
                refine lv_iload hx hb dX7_hear_270 (lv_at hl 3 rfl) ?_
                refine lv_iconst (v := 3) hx hb dX7_hear_272 (by decide) ?_
                refine lv_icmp_ne (tgt := 287) hx hb dX7_hear_273 (by decide) (fun c_379 => ?_) (fun c_379 => ?_)
                · skip
                  have hG := hG.trans (if_neg c_379)
                  have gc_379 := ti_ne c_379 rfl kc_3
                  refine lv_iload hx hb dX7_hear_287 (lv_at hl 2 rfl) ?_
                  exact wq_i hx hb hr (cI z_372) ⟨⟨trivial, trivial⟩, (cI_of z_372)⟩ (fun t ht hW => ⟨z_373, z_374, f_375, f_376, b_z_373, b_z_374, (by first | omega | decide | assumption), (cI_tup hG), Bw.to hP hD hK ht hW⟩) hS dX7_hear_289 hlocks
                · skip
                  have hG := hG.trans (if_pos c_379)
                  have gc_379 := ti_eq c_379 rfl kc_3
                  refine lv_iload hx hb dX7_hear_276 (lv_at hl 2 rfl) ?_
                  refine lv_aload_n hx hb dX7_hear_278 rfl (lv_at hl 4 rfl) ?_
                  refine lv_iload_n hx hb dX7_hear_279 rfl (lv_at hl 6 rfl) ?_
                  have hMs := ml_of hD [true, true, false, false, false, false] (wc := [(oc7 oM iM_thrown rM_tape iM_taped iM_size iM_at iM_end iM_token iM_whole iM_nameSize iM_fault iM_place iM_trouble rM_letters iM_failed iM_hasCourt rM_r rM_fresh rM_told rM_read rM_st rM_undone rM_kept iM_undos iM_images rM_fresher iM_fresherSize iM_scale iM_night rM_heardRow rM_cutRow z_373 z_374 iM_allBreaths rM_trial rM_words iM_fewestBreaths iM_orderMany iM_orderSum iM_leastOrder rM_often iM_setMany iM_someOf iM_allOf iM_allWeight iM_enoughWeight iM_worthSum iM_firstRest iM_leastDrawn), (arI rM_r kM_r 287 fM_r)]) rfl
                  have hFc := va_freeM hD hS hA _ hMs
                  refine va_calli (va_runV (As := [.int p0]) (rest := [.int z_372]) ⟨hx, hb, hml, hown, hts⟩ (tX7_weightsOf l dC dI _ oM iM_thrown rM_tape iM_taped iM_size iM_at iM_end iM_token iM_whole iM_nameSize iM_fault iM_place iM_trouble rM_letters iM_failed iM_hasCourt rM_r fM_r kM_r rM_fresh rM_told rM_read rM_st rM_undone rM_kept iM_undos iM_images rM_fresher iM_fresherSize iM_scale iM_night rM_heardRow rM_cutRow z_373 z_374 iM_allBreaths rM_trial rM_words iM_fewestBreaths iM_orderMany iM_orderSum iM_leastOrder rM_often iM_setMany iM_someOf iM_allOf iM_allWeight iM_enoughWeight iM_worthSum iM_firstRest iM_leastDrawn p0 b_iM_taped b_iM_size b_iM_end b_iM_failed b_iM_hasCourt b_iM_undos b_iM_images b_iM_scale b_z_373 b_z_374 (by assumption) (by assumption) ⟨hk0.1, hk0.2⟩ (om_9acf6818 kn_p0.2 cx_365 gc_379)) (cwV 1 hts (wd_V wd_506 wd_507 wd_508 wd_5 (wd_c wd_509)) rfl rfl rfl dv_yX7_weightsOf_1 ⟨(om_8728f9b4 n9), (om_309dbbdf n9)⟩) ⟨Pw.fb, recvX7 hK hP (q0 := 0) rfl, fun U hU hW => Pw.to (hP.ms _ hMs) (hD.ms _ hMs) (hK.ms [true, false, false, false, false] rfl) hE hS hFc hU hW⟩ rfl rfl hl.1 rfl (lv_room (Nat.le_of_ble_eq_true rfl)) dX7_hear_280 ⟨Nat.le_of_ble_eq_true rfl, Nat.le_of_ble_eq_true rfl⟩) hS (fun q _ h => hFc q h) hFc (fun r u t H locs ht hvm hw hB hz1 hk1 hS => ?_)
                  have hru9 := hw.2
                  have hw := hw.1
                  obtain ⟨hP, hD⟩ := Bw.goN (ws' := [(oc7 oM iM_thrown rM_tape iM_taped iM_size iM_at iM_end iM_token iM_whole iM_nameSize iM_fault iM_place iM_trouble rM_letters iM_failed iM_hasCourt rM_r rM_fresh rM_told rM_read rM_st rM_undone rM_kept iM_undos iM_images rM_fresher iM_fresherSize iM_scale iM_night rM_heardRow rM_cutRow z_373 z_374 iM_allBreaths rM_trial rM_words iM_fewestBreaths iM_orderMany iM_orderSum iM_leastOrder rM_often iM_setMany iM_someOf iM_allOf iM_allWeight iM_enoughWeight iM_worthSum iM_firstRest iM_leastDrawn), (arI rM_r kM_r 287 fM_r), (arI rM_told kM_told 90 fM_told), (arI rM_heardRow kM_heardRow 400 f_375), (arI rM_cutRow kM_cutRow 800 f_376), (arI rQ kQ 90 fQ)]) hB rfl ht hP hD _ hMs hk1 hFc rfl
                  clear hz1 hk1 hvm ht hB hMs
                  obtain ⟨x_380, rfl⟩ : ∃ z, z = r := ⟨_, rfl⟩
                  have hG := hG.trans (lt_eq hru9.symm)
                  have ux_380 := hw.2
                  refine lv_idiv hx hb dX7_hear_283 (ti_n0 rfl (by omega)) ?_
                  refine lv_topi (fun x_381 ex_381 => ?_)
                  have hG := hG.trans (lt_eq ex_381)
                  refine lv_goto (tgt := 289) hx hb dX7_hear_284 (by decide) ?_
                  exact wq_i hx hb hr (cI x_381) ⟨⟨trivial, trivial⟩, (cI_of x_381)⟩ (fun t ht hW => ⟨z_373, z_374, f_375, f_376, b_z_373, b_z_374, (by first | omega | decide | assumption), (cI_tup hG), Bw.to hP hD hK ht hW⟩) hS dX7_hear_289 hlocks
              · skip
                have hG := hG.trans (if_neg c_378)
                have gc_378 := ti_nle c_378 rfl rfl
                refine lv_aload_n hx hb dX7_hear_94 rfl (lv_at hl 5 rfl) ?_
                refine lv_iconst (v := 4) hx hb dX7_hear_95 (by decide) ?_
                refine lv_iload_n hx hb dX7_hear_96 rfl (lv_at hl 6 rfl) ?_
                refine lv_imul hx hb dX7_hear_97 ?_
                refine lv_topi (fun x_382 ex_382 => ?_)
                have hG := hG.trans (lt_eq ex_382)
                have vx_382 : x_382.toInt = 4 * p0.toInt := ti_mul ex_382 kc_4 rfl (om_56b74365 hk0.1) (om_eac0354e hk0.2 s_nodes.2)
                refine lv_iload hx hb dX7_hear_98 (lv_at hl 0 rfl) ?_
                refine lv_iadd hx hb dX7_hear_100 ?_
                refine lv_topi (fun x_383 ex_383 => ?_)
                have hG := hG.trans (lt_eq ex_383)
                have vx_383 : x_383.toInt = 4 * p0.toInt + z_371.toInt := om_5d0caf0f (ti_add ex_383 vx_382 rfl (om_056a216f hk0.1 hi0_n_377.1) (om_da12a7f8 hk0.2 s_nodes.2 mn_p0.2 hi0_n_377.2))
                refine va_iald hx hb hK hP 5 4 rfl rfl (ti_in vx_383 (om_fc2812d4 hk0.1 hi0_n_377.1) (om_01db022b hk0.2 s_nodes.2 mn_p0.2 hi0_n_377.2)) dX7_hear_101 ?_
                refine lv_topi (fun x_384 ex_384 => ?_)
                have hG := hG.trans (lt_eq ex_384)
                have kx_384 : (fQ x_383.toNatClampNeg).toInt = x_384.toInt := by rw [ex_384]
                have cx_384 : (fQ (4 * p0.toNatClampNeg + z_371.toNatClampNeg)).toInt = x_384.toInt := by rw [show 4 * p0.toNatClampNeg + z_371.toNatClampNeg = x_383.toNatClampNeg from (om_4de36627 (ti_cl (x := p0) rfl hk0.1) (ti_cl (x := z_371) rfl hi0_n_377.1) (ti_cl (x := x_383) vx_383 (om_fc2812d4 hk0.1 hi0_n_377.1)))]; exact kx_384
                have wx_384 : 0 ≤ x_384.toInt ∧ x_384.toInt < p0.toInt := row_lt r_Q (i := z_371.toNatClampNeg) (ti_cl (x := p0) rfl hk0.1) (ti_cl (x := z_371) rfl hi0_n_377.1) hk0.2 (om_644b432c cx_370 gc_378) (om_24300f0a (ti_cl (x := p0) rfl hk0.1) (ti_cl (x := z_371) rfl hi0_n_377.1)) cx_384
                have pr_x_384 := rsum_at r_R r_Q (k := p0.toNatClampNeg) (i := z_371.toNatClampNeg) (z := x_384) (by have q_1 := ti_cl (x := p0) rfl hk0.1; omega) (by omega) (by have q_1 := ti_cl (x := z_371) rfl hi0_n_377.1; omega) (by have q_3 := cx_384; rw [show 4 * p0.toNatClampNeg + z_371.toNatClampNeg = 4 * p0.toNatClampNeg + z_371.toNatClampNeg from by omega]; omega)
                have q_z_371 := ti_cl (x := z_371) rfl hi0_n_377.1
                refine lv_istore (lv' := [(9, .int x_384), (8, .int z_371), (7, .int x_370), (6, .int z_372), (5, .int x_365), (0, .ref oM), (1, .ref rQ), (2, .int p0), (3, .int p1), (4, .int p2)]) hx hb dX7_hear_102 hl (by decide) rfl (fun ls hl => ?_)
                refine lv_iload hx hb dX7_hear_104 (lv_at hl 4 rfl) ?_
                refine lv_iconst (v := 3) hx hb dX7_hear_106 (by decide) ?_
                refine lv_icmp_ne (tgt := 137) hx hb dX7_hear_107 (by decide) (fun c_385 => ?_) (fun c_385 => ?_)
                · skip
                  have hG := hG.trans (if_neg c_385)
                  have gc_385 := ti_ne c_385 rfl kc_3
                  refine lv_iload hx hb dX7_hear_137 (lv_at hl 4 rfl) ?_
                  refine lv_iconst (v := 1) hx hb dX7_hear_139 (by decide) ?_
                  refine lv_icmp_ne (tgt := 205) hx hb dX7_hear_140 (by decide) (fun c_386 => ?_) (fun c_386 => ?_)
                  · skip
                    have hG := hG.trans (if_neg c_386)
                    have gc_386 := ti_ne c_386 rfl kc_1
                    refine lv_aload_n hx hb dX7_hear_205 rfl (lv_at hl 5 rfl) ?_
                    refine lv_aload_n hx hb dX7_hear_206 rfl (lv_at hl 6 rfl) ?_
                    refine lv_iload hx hb dX7_hear_207 (lv_at hl 0 rfl) ?_
                    refine lv_iload_n hx hb dX7_hear_209 rfl (lv_at hl 8 rfl) ?_
                    refine lv_iload hx hb dX7_hear_210 (lv_at hl 3 rfl) ?_
                    refine lv_iload hx hb dX7_hear_212 (lv_at hl 9 rfl) ?_
                    refine lv_icmp_ge (tgt := 222) hx hb dX7_hear_214 (by decide) (fun c_387 => ?_) (fun c_387 => ?_)
                    · skip
                      have hG := hG.trans (if_pos c_387)
                      have gc_387 := ti_le c_387 rfl rfl
                      refine lv_iload hx hb dX7_hear_222 (lv_at hl 9 rfl) ?_
                      have hFc := va_freeI hD hS hA
                      refine va_calli (va_runV (As := [.ref rQ, .int x_384, .int p1, .int p2]) (rest := []) ⟨hx, hb, hml, hown, hts⟩ (ih9 _ oM iM_thrown rM_tape iM_taped iM_size iM_at iM_end iM_token iM_whole iM_nameSize iM_fault iM_place iM_trouble rM_letters iM_failed iM_hasCourt rM_r fM_r kM_r rM_fresh rM_told fM_told kM_told rM_read rM_st rM_undone rM_kept iM_undos iM_images rM_fresher iM_fresherSize iM_scale iM_night rM_heardRow f_375 kM_heardRow rM_cutRow f_376 kM_cutRow z_373 z_374 iM_allBreaths rM_trial rM_words iM_fewestBreaths iM_orderMany iM_orderSum iM_leastOrder rM_often iM_setMany iM_someOf iM_allOf iM_allWeight iM_enoughWeight iM_worthSum iM_firstRest iM_leastDrawn rQ fQ kQ x_384 p1 p2 b_iM_taped b_iM_size b_iM_end b_iM_failed b_iM_hasCourt b_iM_undos b_iM_images b_iM_scale b_z_373 b_z_374 (by assumption) (by assumption) (by assumption) (by assumption) ⟨wx_384.1, (om_90a71968 hk0.2 wx_384.2)⟩ (by first | assumption | (have q0 := kc_0; have q1 := kc_1; first | exact ⟨by omega, by omega⟩ | omega) | decide | (intro h; exact absurd h (by decide))) (by first | assumption | (have q0 := kc_0; have q1 := kc_1; first | exact ⟨by omega, by omega⟩ | omega) | decide | (intro h; exact absurd h (by decide)))) (cwV 4 hts (wd_V wd_779 wd_780 wd_781 wd_5 (wd_c wd_782)) rfl rfl rfl (by decide +kernel) ⟨(om_70783806 n9), (om_db56e044 n9)⟩) ⟨Pw.fb, recvX7 hK hP (q0 := 0) rfl, fun U hU hW => Pw.to hP hD hK hE hS hFc hU hW⟩ rfl rfl hl.1 rfl (lv_room (Nat.le_of_ble_eq_true rfl)) dX7_hear_224 ⟨Nat.le_of_ble_eq_true rfl, Nat.le_of_ble_eq_true rfl⟩) hS (fun q _ h => hFc q h) hFc (fun r u t H locs ht hvm hw hB hz1 hk1 hS => ?_)
                      have hru9 := hw.2
                      have hw := hw.1
                      refine ex_4_4 hB (fun x_388 x_389 f_390 f_391 b_x_388 b_x_389 e_x_388_0 e_x_388_1 hB => ?_)
                      obtain ⟨hP, hD⟩ := Bw.goA (ws' := [(oc7 oM iM_thrown rM_tape iM_taped iM_size iM_at iM_end iM_token iM_whole iM_nameSize iM_fault iM_place iM_trouble rM_letters iM_failed iM_hasCourt rM_r rM_fresh rM_told rM_read rM_st rM_undone rM_kept iM_undos iM_images rM_fresher iM_fresherSize iM_scale iM_night rM_heardRow rM_cutRow x_388 x_389 iM_allBreaths rM_trial rM_words iM_fewestBreaths iM_orderMany iM_orderSum iM_leastOrder rM_often iM_setMany iM_someOf iM_allOf iM_allWeight iM_enoughWeight iM_worthSum iM_firstRest iM_leastDrawn), (arI rM_r kM_r 287 fM_r), (arI rM_told kM_told 90 fM_told), (arI rM_heardRow kM_heardRow 400 f_390), (arI rM_cutRow kM_cutRow 800 f_391), (arI rQ kQ 90 fQ)]) hB rfl ht hFc rfl
                      clear hz1 hk1 hvm ht hB
                      rw [← hru9] at e_x_388_1
                      obtain ⟨x_392, rfl⟩ : ∃ z, z = r := ⟨_, rfl⟩
                      have hG := hG.trans (un5_eq e_x_388_1)
                      refine lv_istore (lv' := [(10, .int x_392), (9, .int x_384), (8, .int z_371), (7, .int x_370), (6, .int z_372), (5, .int x_365), (0, .ref oM), (1, .ref rQ), (2, .int p0), (3, .int p1), (4, .int p2)]) hx hb dX7_hear_227 hl (by decide) rfl (fun ls hl => ?_)
                      refine lv_iload hx hb dX7_hear_229 (lv_at hl 0 rfl) ?_
                      refine lv_iload hx hb dX7_hear_231 (lv_at hl 4 rfl) ?_
                      refine lv_icmp_ge (tgt := 241) hx hb dX7_hear_233 (by decide) (fun c_393 => ?_) (fun c_393 => ?_)
                      · skip
                        have hG := hG.trans (if_pos c_393)
                        have gc_393 := ti_le c_393 rfl rfl
                        refine lv_iload hx hb dX7_hear_241 (lv_at hl 4 rfl) ?_
                        refine lv_istore (lv' := [(6, .int z_372), (10, .int x_392), (9, .int x_384), (8, .int z_371), (7, .int x_370), (5, .int x_365), (0, .ref oM), (1, .ref rQ), (2, .int p0), (3, .int p1), (4, .int p2)]) hx hb dX7_hear_243 hl (by decide) rfl (fun ls hl => ?_)
                        refine lv_iload hx hb dX7_hear_245 (lv_at hl 0 rfl) ?_
                        refine lv_iload_n hx hb dX7_hear_247 rfl (lv_at hl 9 rfl) ?_
                        refine lv_icmp_gt (tgt := 264) hx hb dX7_hear_248 (by decide) (fun c_394 => ?_) (fun c_394 => ?_)
                        · skip
                          have hG := hG.trans (if_pos c_394)
                          have gc_394 := ti_lt c_394 rfl rfl
                          obtain ⟨x_395, ex_395⟩ : ∃ z : Int32, z = z_371 + Int32.ofInt 1 := ⟨_, rfl⟩
                          have hG := hG.trans (lt_eq ex_395)
                          have vx_395 : x_395.toInt = z_371.toInt + 1 := ti_add (y := 1) ex_395 rfl kc_1 (om_4e4fce7e hi0_n_377.1) (om_d6392c09 mn_p0.2 hi0_n_377.2)
                          refine lv_iinc (v := x_395) (lv' := [(8, .int x_395), (6, .int z_372), (10, .int x_392), (9, .int x_384), (7, .int x_370), (5, .int x_365), (0, .ref oM), (1, .ref rQ), (2, .int p0), (3, .int p1), (4, .int p2)]) hx hb dX7_hear_264 hl (k := 3) rfl ex_395.symm (by decide) rfl (fun ls hl => ?_)
                          refine lv_goto (tgt := 87) hx hb dX7_hear_267 (by decide) ?_
                          exact ih_n_377 x_395 z_372 x_388 x_389 f_390 f_391 _ _ _ b_x_388 b_x_389 ⟨(om_83b90de5 hi0_n_377.1 vx_395), (om_1ad1f819 cx_370 gc_378 vx_395)⟩ (by rw [show x_395.toNatClampNeg = z_371.toNatClampNeg + 1 from (by have q_1 := ti_cl (x := x_395) vx_395 (om_9548a8fd hi0_n_377.1); have q_2 := ti_cl (x := z_371) rfl hi0_n_377.1; omega)]; omega) (ms_lt hm_n_377 (om_dd4ae0bc vx_395) (om_6d498008 cx_370 gc_378)) hG hP hD hS (lv_sub hl [0, 4, 1, 5, 6, 7, 8, 9, 10] rfl)
                        · skip
                          have hG := hG.trans (if_neg c_394)
                          have gc_394 := ti_nlt c_394 rfl rfl
                          refine lv_aload_n hx hb dX7_hear_251 rfl (lv_at hl 6 rfl) ?_
                          refine lv_aload_n hx hb dX7_hear_252 rfl (lv_at hl 7 rfl) ?_
                          refine lv_iload_n hx hb dX7_hear_253 rfl (lv_at hl 8 rfl) ?_
                          refine lv_iload hx hb dX7_hear_254 (lv_at hl 3 rfl) ?_
                          refine lv_iconst (v := 1) hx hb dX7_hear_256 (by decide) ?_
                          refine lv_iadd hx hb dX7_hear_257 ?_
                          refine lv_topi (fun x_396 ex_396 => ?_)
                          have hG := hG.trans (lt_eq ex_396)
                          have vx_396 : x_396.toInt = z_371.toInt + 1 := ti_add ex_396 rfl kc_1 (om_4e4fce7e hi0_n_377.1) (om_d6392c09 mn_p0.2 hi0_n_377.2)
                          refine lv_iload hx hb dX7_hear_258 (lv_at hl 0 rfl) ?_
                          have hMs := ml_of hD [true, true, false, false, true, true] (wc := [(oc7 oM iM_thrown rM_tape iM_taped iM_size iM_at iM_end iM_token iM_whole iM_nameSize iM_fault iM_place iM_trouble rM_letters iM_failed iM_hasCourt rM_r rM_fresh rM_told rM_read rM_st rM_undone rM_kept iM_undos iM_images rM_fresher iM_fresherSize iM_scale iM_night rM_heardRow rM_cutRow x_388 x_389 iM_allBreaths rM_trial rM_words iM_fewestBreaths iM_orderMany iM_orderSum iM_leastOrder rM_often iM_setMany iM_someOf iM_allOf iM_allWeight iM_enoughWeight iM_worthSum iM_firstRest iM_leastDrawn), (arI rM_r kM_r 287 fM_r), (arI rM_cutRow kM_cutRow 800 f_391), (arI rQ kQ 90 fQ)]) rfl
                          have hFc := va_freeM hD hS hA _ hMs
                          refine va_calli (va_runV (As := [.ref rQ, .int p0, .int x_396, .int z_372]) (rest := []) ⟨hx, hb, hml, hown, hts⟩ (tX7_cutFrom l dC dI _ oM iM_thrown rM_tape iM_taped iM_size iM_at iM_end iM_token iM_whole iM_nameSize iM_fault iM_place iM_trouble rM_letters iM_failed iM_hasCourt rM_r fM_r kM_r rM_fresh rM_told rM_read rM_st rM_undone rM_kept iM_undos iM_images rM_fresher iM_fresherSize iM_scale iM_night rM_heardRow rM_cutRow f_391 kM_cutRow x_388 x_389 iM_allBreaths rM_trial rM_words iM_fewestBreaths iM_orderMany iM_orderSum iM_leastOrder rM_often iM_setMany iM_someOf iM_allOf iM_allWeight iM_enoughWeight iM_worthSum iM_firstRest iM_leastDrawn rQ fQ kQ p0 x_396 z_372 b_iM_taped b_iM_size b_iM_end b_iM_failed b_iM_hasCourt b_iM_undos b_iM_images b_iM_scale b_x_388 b_x_389 (by assumption) (by assumption) (by assumption) ⟨hk0.1, hk0.2⟩ ⟨(om_83b90de5 hi0_n_377.1 vx_396), (om_1ad1f819 cx_370 gc_378 vx_396)⟩ (by first | assumption | (have q0 := kc_0; have q1 := kc_1; first | exact ⟨by omega, by omega⟩ | omega) | decide | (intro h; exact absurd h (by decide)))) (cwV 4 hts (wd_V wd_783 wd_784 wd_785 wd_5 (wd_c wd_786)) rfl rfl rfl dv_yX7_cutFrom_4 ⟨(om_8728f9b4 n9), (om_05453fa9 n9)⟩) ⟨Pw.fb, recvX7 hK hP (q0 := 0) rfl, fun U hU hW => Pw.to (hP.ms _ hMs) (hD.ms _ hMs) (hK.ms [true, false, false, true, true] rfl) hE hS hFc hU hW⟩ rfl rfl hl.1 rfl (lv_room (Nat.le_of_ble_eq_true rfl)) dX7_hear_260 ⟨Nat.le_of_ble_eq_true rfl, Nat.le_of_ble_eq_true rfl⟩) hS (fun q _ h => hFc q h) hFc (fun r u t H locs ht hvm hw hB hz1 hk1 hS => ?_)
                          have hru9 := hw.2
                          have hw := hw.1
                          refine ex_2_3 hB (fun x_397 f_398 b_x_397 e_x_397_0 e_x_397_1 hB => ?_)
                          obtain ⟨hP, hD⟩ := Bw.goN (ws' := [(oc7 oM iM_thrown rM_tape iM_taped iM_size iM_at iM_end iM_token iM_whole iM_nameSize iM_fault iM_place iM_trouble rM_letters iM_failed iM_hasCourt rM_r rM_fresh rM_told rM_read rM_st rM_undone rM_kept iM_undos iM_images rM_fresher iM_fresherSize iM_scale iM_night rM_heardRow rM_cutRow x_388 x_397 iM_allBreaths rM_trial rM_words iM_fewestBreaths iM_orderMany iM_orderSum iM_leastOrder rM_often iM_setMany iM_someOf iM_allOf iM_allWeight iM_enoughWeight iM_worthSum iM_firstRest iM_leastDrawn), (arI rM_r kM_r 287 fM_r), (arI rM_told kM_told 90 fM_told), (arI rM_heardRow kM_heardRow 400 f_390), (arI rM_cutRow kM_cutRow 800 f_398), (arI rQ kQ 90 fQ)]) hB rfl ht hP hD _ hMs hk1 hFc rfl
                          clear hz1 hk1 hvm ht hB hMs
                          rw [← hru9] at e_x_397_1
                          obtain ⟨x_399, rfl⟩ : ∃ z, z = r := ⟨_, rfl⟩
                          have hG := hG.trans (un3_eq e_x_397_1)
                          exact wq_i hx hb hr (cI x_399) ⟨⟨trivial, trivial⟩, (cI_of x_399)⟩ (fun t ht hW => ⟨x_388, x_397, f_390, f_398, b_x_388, b_x_397, (by first | omega | decide | assumption), (cI_tup hG), Bw.to hP hD hK ht hW⟩) hS dX7_hear_263 hlocks
                      · skip
                        have hG := hG.trans (if_neg c_393)
                        have gc_393 := ti_nle c_393 rfl rfl
                        refine lv_iload hx hb dX7_hear_236 (lv_at hl 0 rfl) ?_
                        refine lv_goto (tgt := 243) hx hb dX7_hear_238 (by decide) ?_
                        refine lv_istore (lv' := [(6, .int x_392), (10, .int x_392), (9, .int x_384), (8, .int z_371), (7, .int x_370), (5, .int x_365), (0, .ref oM), (1, .ref rQ), (2, .int p0), (3, .int p1), (4, .int p2)]) hx hb dX7_hear_243 hl (by decide) rfl (fun ls hl => ?_)
                        refine lv_iload hx hb dX7_hear_245 (lv_at hl 0 rfl) ?_
                        refine lv_iload_n hx hb dX7_hear_247 rfl (lv_at hl 9 rfl) ?_
                        refine lv_icmp_gt (tgt := 264) hx hb dX7_hear_248 (by decide) (fun c_400 => ?_) (fun c_400 => ?_)
                        · skip
                          have hG := hG.trans (if_pos c_400)
                          have gc_400 := ti_lt c_400 rfl rfl
                          obtain ⟨x_401, ex_401⟩ : ∃ z : Int32, z = z_371 + Int32.ofInt 1 := ⟨_, rfl⟩
                          have hG := hG.trans (lt_eq ex_401)
                          have vx_401 : x_401.toInt = z_371.toInt + 1 := ti_add (y := 1) ex_401 rfl kc_1 (om_4e4fce7e hi0_n_377.1) (om_d6392c09 mn_p0.2 hi0_n_377.2)
                          refine lv_iinc (v := x_401) (lv' := [(8, .int x_401), (6, .int x_392), (10, .int x_392), (9, .int x_384), (7, .int x_370), (5, .int x_365), (0, .ref oM), (1, .ref rQ), (2, .int p0), (3, .int p1), (4, .int p2)]) hx hb dX7_hear_264 hl (k := 3) rfl ex_401.symm (by decide) rfl (fun ls hl => ?_)
                          refine lv_goto (tgt := 87) hx hb dX7_hear_267 (by decide) ?_
                          exact ih_n_377 x_401 x_392 x_388 x_389 f_390 f_391 _ _ _ b_x_388 b_x_389 ⟨(om_83b90de5 hi0_n_377.1 vx_401), (om_1ad1f819 cx_370 gc_378 vx_401)⟩ (by rw [show x_401.toNatClampNeg = z_371.toNatClampNeg + 1 from (by have q_1 := ti_cl (x := x_401) vx_401 (om_9548a8fd hi0_n_377.1); have q_2 := ti_cl (x := z_371) rfl hi0_n_377.1; omega)]; omega) (ms_lt hm_n_377 (om_dd4ae0bc vx_401) (om_6d498008 cx_370 gc_378)) hG hP hD hS (lv_sub hl [0, 4, 1, 5, 6, 7, 8, 9, 10] rfl)
                        · skip
                          have hG := hG.trans (if_neg c_400)
                          have gc_400 := ti_nlt c_400 rfl rfl
                          refine lv_aload_n hx hb dX7_hear_251 rfl (lv_at hl 6 rfl) ?_
                          refine lv_aload_n hx hb dX7_hear_252 rfl (lv_at hl 7 rfl) ?_
                          refine lv_iload_n hx hb dX7_hear_253 rfl (lv_at hl 8 rfl) ?_
                          refine lv_iload hx hb dX7_hear_254 (lv_at hl 3 rfl) ?_
                          refine lv_iconst (v := 1) hx hb dX7_hear_256 (by decide) ?_
                          refine lv_iadd hx hb dX7_hear_257 ?_
                          refine lv_topi (fun x_402 ex_402 => ?_)
                          have hG := hG.trans (lt_eq ex_402)
                          have vx_402 : x_402.toInt = z_371.toInt + 1 := ti_add ex_402 rfl kc_1 (om_4e4fce7e hi0_n_377.1) (om_d6392c09 mn_p0.2 hi0_n_377.2)
                          refine lv_iload hx hb dX7_hear_258 (lv_at hl 0 rfl) ?_
                          have hMs := ml_of hD [true, true, false, false, true, true] (wc := [(oc7 oM iM_thrown rM_tape iM_taped iM_size iM_at iM_end iM_token iM_whole iM_nameSize iM_fault iM_place iM_trouble rM_letters iM_failed iM_hasCourt rM_r rM_fresh rM_told rM_read rM_st rM_undone rM_kept iM_undos iM_images rM_fresher iM_fresherSize iM_scale iM_night rM_heardRow rM_cutRow x_388 x_389 iM_allBreaths rM_trial rM_words iM_fewestBreaths iM_orderMany iM_orderSum iM_leastOrder rM_often iM_setMany iM_someOf iM_allOf iM_allWeight iM_enoughWeight iM_worthSum iM_firstRest iM_leastDrawn), (arI rM_r kM_r 287 fM_r), (arI rM_cutRow kM_cutRow 800 f_391), (arI rQ kQ 90 fQ)]) rfl
                          have hFc := va_freeM hD hS hA _ hMs
                          refine va_calli (va_runV (As := [.ref rQ, .int p0, .int x_402, .int x_392]) (rest := []) ⟨hx, hb, hml, hown, hts⟩ (tX7_cutFrom l dC dI _ oM iM_thrown rM_tape iM_taped iM_size iM_at iM_end iM_token iM_whole iM_nameSize iM_fault iM_place iM_trouble rM_letters iM_failed iM_hasCourt rM_r fM_r kM_r rM_fresh rM_told rM_read rM_st rM_undone rM_kept iM_undos iM_images rM_fresher iM_fresherSize iM_scale iM_night rM_heardRow rM_cutRow f_391 kM_cutRow x_388 x_389 iM_allBreaths rM_trial rM_words iM_fewestBreaths iM_orderMany iM_orderSum iM_leastOrder rM_often iM_setMany iM_someOf iM_allOf iM_allWeight iM_enoughWeight iM_worthSum iM_firstRest iM_leastDrawn rQ fQ kQ p0 x_402 x_392 b_iM_taped b_iM_size b_iM_end b_iM_failed b_iM_hasCourt b_iM_undos b_iM_images b_iM_scale b_x_388 b_x_389 (by assumption) (by assumption) (by assumption) ⟨hk0.1, hk0.2⟩ ⟨(om_83b90de5 hi0_n_377.1 vx_402), (om_1ad1f819 cx_370 gc_378 vx_402)⟩ (by first | assumption | (have q0 := kc_0; have q1 := kc_1; first | exact ⟨by omega, by omega⟩ | omega) | decide | (intro h; exact absurd h (by decide)))) (cwV 4 hts (wd_V wd_783 wd_784 wd_785 wd_5 (wd_c wd_786)) rfl rfl rfl dv_yX7_cutFrom_4 ⟨(om_8728f9b4 n9), (om_05453fa9 n9)⟩) ⟨Pw.fb, recvX7 hK hP (q0 := 0) rfl, fun U hU hW => Pw.to (hP.ms _ hMs) (hD.ms _ hMs) (hK.ms [true, false, false, true, true] rfl) hE hS hFc hU hW⟩ rfl rfl hl.1 rfl (lv_room (Nat.le_of_ble_eq_true rfl)) dX7_hear_260 ⟨Nat.le_of_ble_eq_true rfl, Nat.le_of_ble_eq_true rfl⟩) hS (fun q _ h => hFc q h) hFc (fun r u t H locs ht hvm hw hB hz1 hk1 hS => ?_)
                          have hru9 := hw.2
                          have hw := hw.1
                          refine ex_2_3 hB (fun x_403 f_404 b_x_403 e_x_403_0 e_x_403_1 hB => ?_)
                          obtain ⟨hP, hD⟩ := Bw.goN (ws' := [(oc7 oM iM_thrown rM_tape iM_taped iM_size iM_at iM_end iM_token iM_whole iM_nameSize iM_fault iM_place iM_trouble rM_letters iM_failed iM_hasCourt rM_r rM_fresh rM_told rM_read rM_st rM_undone rM_kept iM_undos iM_images rM_fresher iM_fresherSize iM_scale iM_night rM_heardRow rM_cutRow x_388 x_403 iM_allBreaths rM_trial rM_words iM_fewestBreaths iM_orderMany iM_orderSum iM_leastOrder rM_often iM_setMany iM_someOf iM_allOf iM_allWeight iM_enoughWeight iM_worthSum iM_firstRest iM_leastDrawn), (arI rM_r kM_r 287 fM_r), (arI rM_told kM_told 90 fM_told), (arI rM_heardRow kM_heardRow 400 f_390), (arI rM_cutRow kM_cutRow 800 f_404), (arI rQ kQ 90 fQ)]) hB rfl ht hP hD _ hMs hk1 hFc rfl
                          clear hz1 hk1 hvm ht hB hMs
                          rw [← hru9] at e_x_403_1
                          obtain ⟨x_405, rfl⟩ : ∃ z, z = r := ⟨_, rfl⟩
                          have hG := hG.trans (un3_eq e_x_403_1)
                          exact wq_i hx hb hr (cI x_405) ⟨⟨trivial, trivial⟩, (cI_of x_405)⟩ (fun t ht hW => ⟨x_388, x_403, f_390, f_404, b_x_388, b_x_403, (by first | omega | decide | assumption), (cI_tup hG), Bw.to hP hD hK ht hW⟩) hS dX7_hear_263 hlocks
                    · skip
                      have hG := hG.trans (if_neg c_387)
                      have gc_387 := ti_nle c_387 rfl rfl
                      refine lv_iload hx hb dX7_hear_217 (lv_at hl 3 rfl) ?_
                      refine lv_goto (tgt := 224) hx hb dX7_hear_219 (by decide) ?_
                      have hFc := va_freeI hD hS hA
                      refine va_calli (va_runV (As := [.ref rQ, .int x_384, .int p1, .int z_372]) (rest := []) ⟨hx, hb, hml, hown, hts⟩ (ih9 _ oM iM_thrown rM_tape iM_taped iM_size iM_at iM_end iM_token iM_whole iM_nameSize iM_fault iM_place iM_trouble rM_letters iM_failed iM_hasCourt rM_r fM_r kM_r rM_fresh rM_told fM_told kM_told rM_read rM_st rM_undone rM_kept iM_undos iM_images rM_fresher iM_fresherSize iM_scale iM_night rM_heardRow f_375 kM_heardRow rM_cutRow f_376 kM_cutRow z_373 z_374 iM_allBreaths rM_trial rM_words iM_fewestBreaths iM_orderMany iM_orderSum iM_leastOrder rM_often iM_setMany iM_someOf iM_allOf iM_allWeight iM_enoughWeight iM_worthSum iM_firstRest iM_leastDrawn rQ fQ kQ x_384 p1 z_372 b_iM_taped b_iM_size b_iM_end b_iM_failed b_iM_hasCourt b_iM_undos b_iM_images b_iM_scale b_z_373 b_z_374 (by assumption) (by assumption) (by assumption) (by assumption) ⟨wx_384.1, (om_90a71968 hk0.2 wx_384.2)⟩ (by first | assumption | (have q0 := kc_0; have q1 := kc_1; first | exact ⟨by omega, by omega⟩ | omega) | decide | (intro h; exact absurd h (by decide))) (by first | assumption | (have q0 := kc_0; have q1 := kc_1; first | exact ⟨by omega, by omega⟩ | omega) | decide | (intro h; exact absurd h (by decide)))) (cwV 4 hts (wd_V wd_779 wd_780 wd_781 wd_5 (wd_c wd_782)) rfl rfl rfl (by decide +kernel) ⟨(om_70783806 n9), (om_db56e044 n9)⟩) ⟨Pw.fb, recvX7 hK hP (q0 := 0) rfl, fun U hU hW => Pw.to hP hD hK hE hS hFc hU hW⟩ rfl rfl hl.1 rfl (lv_room (Nat.le_of_ble_eq_true rfl)) dX7_hear_224 ⟨Nat.le_of_ble_eq_true rfl, Nat.le_of_ble_eq_true rfl⟩) hS (fun q _ h => hFc q h) hFc (fun r u t H locs ht hvm hw hB hz1 hk1 hS => ?_)
                      have hru9 := hw.2
                      have hw := hw.1
                      refine ex_4_4 hB (fun x_406 x_407 f_408 f_409 b_x_406 b_x_407 e_x_406_0 e_x_406_1 hB => ?_)
                      obtain ⟨hP, hD⟩ := Bw.goA (ws' := [(oc7 oM iM_thrown rM_tape iM_taped iM_size iM_at iM_end iM_token iM_whole iM_nameSize iM_fault iM_place iM_trouble rM_letters iM_failed iM_hasCourt rM_r rM_fresh rM_told rM_read rM_st rM_undone rM_kept iM_undos iM_images rM_fresher iM_fresherSize iM_scale iM_night rM_heardRow rM_cutRow x_406 x_407 iM_allBreaths rM_trial rM_words iM_fewestBreaths iM_orderMany iM_orderSum iM_leastOrder rM_often iM_setMany iM_someOf iM_allOf iM_allWeight iM_enoughWeight iM_worthSum iM_firstRest iM_leastDrawn), (arI rM_r kM_r 287 fM_r), (arI rM_told kM_told 90 fM_told), (arI rM_heardRow kM_heardRow 400 f_408), (arI rM_cutRow kM_cutRow 800 f_409), (arI rQ kQ 90 fQ)]) hB rfl ht hFc rfl
                      clear hz1 hk1 hvm ht hB
                      rw [← hru9] at e_x_406_1
                      obtain ⟨x_410, rfl⟩ : ∃ z, z = r := ⟨_, rfl⟩
                      have hG := hG.trans (un5_eq e_x_406_1)
                      refine lv_istore (lv' := [(10, .int x_410), (9, .int x_384), (8, .int z_371), (7, .int x_370), (6, .int z_372), (5, .int x_365), (0, .ref oM), (1, .ref rQ), (2, .int p0), (3, .int p1), (4, .int p2)]) hx hb dX7_hear_227 hl (by decide) rfl (fun ls hl => ?_)
                      refine lv_iload hx hb dX7_hear_229 (lv_at hl 0 rfl) ?_
                      refine lv_iload hx hb dX7_hear_231 (lv_at hl 4 rfl) ?_
                      refine lv_icmp_ge (tgt := 241) hx hb dX7_hear_233 (by decide) (fun c_411 => ?_) (fun c_411 => ?_)
                      · skip
                        have hG := hG.trans (if_pos c_411)
                        have gc_411 := ti_le c_411 rfl rfl
                        refine lv_iload hx hb dX7_hear_241 (lv_at hl 4 rfl) ?_
                        refine lv_istore (lv' := [(6, .int z_372), (10, .int x_410), (9, .int x_384), (8, .int z_371), (7, .int x_370), (5, .int x_365), (0, .ref oM), (1, .ref rQ), (2, .int p0), (3, .int p1), (4, .int p2)]) hx hb dX7_hear_243 hl (by decide) rfl (fun ls hl => ?_)
                        refine lv_iload hx hb dX7_hear_245 (lv_at hl 0 rfl) ?_
                        refine lv_iload_n hx hb dX7_hear_247 rfl (lv_at hl 9 rfl) ?_
                        refine lv_icmp_gt (tgt := 264) hx hb dX7_hear_248 (by decide) (fun c_412 => ?_) (fun c_412 => ?_)
                        · skip
                          have hG := hG.trans (if_pos c_412)
                          have gc_412 := ti_lt c_412 rfl rfl
                          obtain ⟨x_413, ex_413⟩ : ∃ z : Int32, z = z_371 + Int32.ofInt 1 := ⟨_, rfl⟩
                          have hG := hG.trans (lt_eq ex_413)
                          have vx_413 : x_413.toInt = z_371.toInt + 1 := ti_add (y := 1) ex_413 rfl kc_1 (om_4e4fce7e hi0_n_377.1) (om_d6392c09 mn_p0.2 hi0_n_377.2)
                          refine lv_iinc (v := x_413) (lv' := [(8, .int x_413), (6, .int z_372), (10, .int x_410), (9, .int x_384), (7, .int x_370), (5, .int x_365), (0, .ref oM), (1, .ref rQ), (2, .int p0), (3, .int p1), (4, .int p2)]) hx hb dX7_hear_264 hl (k := 3) rfl ex_413.symm (by decide) rfl (fun ls hl => ?_)
                          refine lv_goto (tgt := 87) hx hb dX7_hear_267 (by decide) ?_
                          exact ih_n_377 x_413 z_372 x_406 x_407 f_408 f_409 _ _ _ b_x_406 b_x_407 ⟨(om_83b90de5 hi0_n_377.1 vx_413), (om_1ad1f819 cx_370 gc_378 vx_413)⟩ (by rw [show x_413.toNatClampNeg = z_371.toNatClampNeg + 1 from (by have q_1 := ti_cl (x := x_413) vx_413 (om_9548a8fd hi0_n_377.1); have q_2 := ti_cl (x := z_371) rfl hi0_n_377.1; omega)]; omega) (ms_lt hm_n_377 (om_dd4ae0bc vx_413) (om_6d498008 cx_370 gc_378)) hG hP hD hS (lv_sub hl [0, 4, 1, 5, 6, 7, 8, 9, 10] rfl)
                        · skip
                          have hG := hG.trans (if_neg c_412)
                          have gc_412 := ti_nlt c_412 rfl rfl
                          refine lv_aload_n hx hb dX7_hear_251 rfl (lv_at hl 6 rfl) ?_
                          refine lv_aload_n hx hb dX7_hear_252 rfl (lv_at hl 7 rfl) ?_
                          refine lv_iload_n hx hb dX7_hear_253 rfl (lv_at hl 8 rfl) ?_
                          refine lv_iload hx hb dX7_hear_254 (lv_at hl 3 rfl) ?_
                          refine lv_iconst (v := 1) hx hb dX7_hear_256 (by decide) ?_
                          refine lv_iadd hx hb dX7_hear_257 ?_
                          refine lv_topi (fun x_414 ex_414 => ?_)
                          have hG := hG.trans (lt_eq ex_414)
                          have vx_414 : x_414.toInt = z_371.toInt + 1 := ti_add ex_414 rfl kc_1 (om_4e4fce7e hi0_n_377.1) (om_d6392c09 mn_p0.2 hi0_n_377.2)
                          refine lv_iload hx hb dX7_hear_258 (lv_at hl 0 rfl) ?_
                          have hMs := ml_of hD [true, true, false, false, true, true] (wc := [(oc7 oM iM_thrown rM_tape iM_taped iM_size iM_at iM_end iM_token iM_whole iM_nameSize iM_fault iM_place iM_trouble rM_letters iM_failed iM_hasCourt rM_r rM_fresh rM_told rM_read rM_st rM_undone rM_kept iM_undos iM_images rM_fresher iM_fresherSize iM_scale iM_night rM_heardRow rM_cutRow x_406 x_407 iM_allBreaths rM_trial rM_words iM_fewestBreaths iM_orderMany iM_orderSum iM_leastOrder rM_often iM_setMany iM_someOf iM_allOf iM_allWeight iM_enoughWeight iM_worthSum iM_firstRest iM_leastDrawn), (arI rM_r kM_r 287 fM_r), (arI rM_cutRow kM_cutRow 800 f_409), (arI rQ kQ 90 fQ)]) rfl
                          have hFc := va_freeM hD hS hA _ hMs
                          refine va_calli (va_runV (As := [.ref rQ, .int p0, .int x_414, .int z_372]) (rest := []) ⟨hx, hb, hml, hown, hts⟩ (tX7_cutFrom l dC dI _ oM iM_thrown rM_tape iM_taped iM_size iM_at iM_end iM_token iM_whole iM_nameSize iM_fault iM_place iM_trouble rM_letters iM_failed iM_hasCourt rM_r fM_r kM_r rM_fresh rM_told rM_read rM_st rM_undone rM_kept iM_undos iM_images rM_fresher iM_fresherSize iM_scale iM_night rM_heardRow rM_cutRow f_409 kM_cutRow x_406 x_407 iM_allBreaths rM_trial rM_words iM_fewestBreaths iM_orderMany iM_orderSum iM_leastOrder rM_often iM_setMany iM_someOf iM_allOf iM_allWeight iM_enoughWeight iM_worthSum iM_firstRest iM_leastDrawn rQ fQ kQ p0 x_414 z_372 b_iM_taped b_iM_size b_iM_end b_iM_failed b_iM_hasCourt b_iM_undos b_iM_images b_iM_scale b_x_406 b_x_407 (by assumption) (by assumption) (by assumption) ⟨hk0.1, hk0.2⟩ ⟨(om_83b90de5 hi0_n_377.1 vx_414), (om_1ad1f819 cx_370 gc_378 vx_414)⟩ (by first | assumption | (have q0 := kc_0; have q1 := kc_1; first | exact ⟨by omega, by omega⟩ | omega) | decide | (intro h; exact absurd h (by decide)))) (cwV 4 hts (wd_V wd_783 wd_784 wd_785 wd_5 (wd_c wd_786)) rfl rfl rfl dv_yX7_cutFrom_4 ⟨(om_8728f9b4 n9), (om_05453fa9 n9)⟩) ⟨Pw.fb, recvX7 hK hP (q0 := 0) rfl, fun U hU hW => Pw.to (hP.ms _ hMs) (hD.ms _ hMs) (hK.ms [true, false, false, true, true] rfl) hE hS hFc hU hW⟩ rfl rfl hl.1 rfl (lv_room (Nat.le_of_ble_eq_true rfl)) dX7_hear_260 ⟨Nat.le_of_ble_eq_true rfl, Nat.le_of_ble_eq_true rfl⟩) hS (fun q _ h => hFc q h) hFc (fun r u t H locs ht hvm hw hB hz1 hk1 hS => ?_)
                          have hru9 := hw.2
                          have hw := hw.1
                          refine ex_2_3 hB (fun x_415 f_416 b_x_415 e_x_415_0 e_x_415_1 hB => ?_)
                          obtain ⟨hP, hD⟩ := Bw.goN (ws' := [(oc7 oM iM_thrown rM_tape iM_taped iM_size iM_at iM_end iM_token iM_whole iM_nameSize iM_fault iM_place iM_trouble rM_letters iM_failed iM_hasCourt rM_r rM_fresh rM_told rM_read rM_st rM_undone rM_kept iM_undos iM_images rM_fresher iM_fresherSize iM_scale iM_night rM_heardRow rM_cutRow x_406 x_415 iM_allBreaths rM_trial rM_words iM_fewestBreaths iM_orderMany iM_orderSum iM_leastOrder rM_often iM_setMany iM_someOf iM_allOf iM_allWeight iM_enoughWeight iM_worthSum iM_firstRest iM_leastDrawn), (arI rM_r kM_r 287 fM_r), (arI rM_told kM_told 90 fM_told), (arI rM_heardRow kM_heardRow 400 f_408), (arI rM_cutRow kM_cutRow 800 f_416), (arI rQ kQ 90 fQ)]) hB rfl ht hP hD _ hMs hk1 hFc rfl
                          clear hz1 hk1 hvm ht hB hMs
                          rw [← hru9] at e_x_415_1
                          obtain ⟨x_417, rfl⟩ : ∃ z, z = r := ⟨_, rfl⟩
                          have hG := hG.trans (un3_eq e_x_415_1)
                          exact wq_i hx hb hr (cI x_417) ⟨⟨trivial, trivial⟩, (cI_of x_417)⟩ (fun t ht hW => ⟨x_406, x_415, f_408, f_416, b_x_406, b_x_415, (by first | omega | decide | assumption), (cI_tup hG), Bw.to hP hD hK ht hW⟩) hS dX7_hear_263 hlocks
                      · skip
                        have hG := hG.trans (if_neg c_411)
                        have gc_411 := ti_nle c_411 rfl rfl
                        refine lv_iload hx hb dX7_hear_236 (lv_at hl 0 rfl) ?_
                        refine lv_goto (tgt := 243) hx hb dX7_hear_238 (by decide) ?_
                        refine lv_istore (lv' := [(6, .int x_410), (10, .int x_410), (9, .int x_384), (8, .int z_371), (7, .int x_370), (5, .int x_365), (0, .ref oM), (1, .ref rQ), (2, .int p0), (3, .int p1), (4, .int p2)]) hx hb dX7_hear_243 hl (by decide) rfl (fun ls hl => ?_)
                        refine lv_iload hx hb dX7_hear_245 (lv_at hl 0 rfl) ?_
                        refine lv_iload_n hx hb dX7_hear_247 rfl (lv_at hl 9 rfl) ?_
                        refine lv_icmp_gt (tgt := 264) hx hb dX7_hear_248 (by decide) (fun c_418 => ?_) (fun c_418 => ?_)
                        · skip
                          have hG := hG.trans (if_pos c_418)
                          have gc_418 := ti_lt c_418 rfl rfl
                          obtain ⟨x_419, ex_419⟩ : ∃ z : Int32, z = z_371 + Int32.ofInt 1 := ⟨_, rfl⟩
                          have hG := hG.trans (lt_eq ex_419)
                          have vx_419 : x_419.toInt = z_371.toInt + 1 := ti_add (y := 1) ex_419 rfl kc_1 (om_4e4fce7e hi0_n_377.1) (om_d6392c09 mn_p0.2 hi0_n_377.2)
                          refine lv_iinc (v := x_419) (lv' := [(8, .int x_419), (6, .int x_410), (10, .int x_410), (9, .int x_384), (7, .int x_370), (5, .int x_365), (0, .ref oM), (1, .ref rQ), (2, .int p0), (3, .int p1), (4, .int p2)]) hx hb dX7_hear_264 hl (k := 3) rfl ex_419.symm (by decide) rfl (fun ls hl => ?_)
                          refine lv_goto (tgt := 87) hx hb dX7_hear_267 (by decide) ?_
                          exact ih_n_377 x_419 x_410 x_406 x_407 f_408 f_409 _ _ _ b_x_406 b_x_407 ⟨(om_83b90de5 hi0_n_377.1 vx_419), (om_1ad1f819 cx_370 gc_378 vx_419)⟩ (by rw [show x_419.toNatClampNeg = z_371.toNatClampNeg + 1 from (by have q_1 := ti_cl (x := x_419) vx_419 (om_9548a8fd hi0_n_377.1); have q_2 := ti_cl (x := z_371) rfl hi0_n_377.1; omega)]; omega) (ms_lt hm_n_377 (om_dd4ae0bc vx_419) (om_6d498008 cx_370 gc_378)) hG hP hD hS (lv_sub hl [0, 4, 1, 5, 6, 7, 8, 9, 10] rfl)
                        · skip
                          have hG := hG.trans (if_neg c_418)
                          have gc_418 := ti_nlt c_418 rfl rfl
                          refine lv_aload_n hx hb dX7_hear_251 rfl (lv_at hl 6 rfl) ?_
                          refine lv_aload_n hx hb dX7_hear_252 rfl (lv_at hl 7 rfl) ?_
                          refine lv_iload_n hx hb dX7_hear_253 rfl (lv_at hl 8 rfl) ?_
                          refine lv_iload hx hb dX7_hear_254 (lv_at hl 3 rfl) ?_
                          refine lv_iconst (v := 1) hx hb dX7_hear_256 (by decide) ?_
                          refine lv_iadd hx hb dX7_hear_257 ?_
                          refine lv_topi (fun x_420 ex_420 => ?_)
                          have hG := hG.trans (lt_eq ex_420)
                          have vx_420 : x_420.toInt = z_371.toInt + 1 := ti_add ex_420 rfl kc_1 (om_4e4fce7e hi0_n_377.1) (om_d6392c09 mn_p0.2 hi0_n_377.2)
                          refine lv_iload hx hb dX7_hear_258 (lv_at hl 0 rfl) ?_
                          have hMs := ml_of hD [true, true, false, false, true, true] (wc := [(oc7 oM iM_thrown rM_tape iM_taped iM_size iM_at iM_end iM_token iM_whole iM_nameSize iM_fault iM_place iM_trouble rM_letters iM_failed iM_hasCourt rM_r rM_fresh rM_told rM_read rM_st rM_undone rM_kept iM_undos iM_images rM_fresher iM_fresherSize iM_scale iM_night rM_heardRow rM_cutRow x_406 x_407 iM_allBreaths rM_trial rM_words iM_fewestBreaths iM_orderMany iM_orderSum iM_leastOrder rM_often iM_setMany iM_someOf iM_allOf iM_allWeight iM_enoughWeight iM_worthSum iM_firstRest iM_leastDrawn), (arI rM_r kM_r 287 fM_r), (arI rM_cutRow kM_cutRow 800 f_409), (arI rQ kQ 90 fQ)]) rfl
                          have hFc := va_freeM hD hS hA _ hMs
                          refine va_calli (va_runV (As := [.ref rQ, .int p0, .int x_420, .int x_410]) (rest := []) ⟨hx, hb, hml, hown, hts⟩ (tX7_cutFrom l dC dI _ oM iM_thrown rM_tape iM_taped iM_size iM_at iM_end iM_token iM_whole iM_nameSize iM_fault iM_place iM_trouble rM_letters iM_failed iM_hasCourt rM_r fM_r kM_r rM_fresh rM_told rM_read rM_st rM_undone rM_kept iM_undos iM_images rM_fresher iM_fresherSize iM_scale iM_night rM_heardRow rM_cutRow f_409 kM_cutRow x_406 x_407 iM_allBreaths rM_trial rM_words iM_fewestBreaths iM_orderMany iM_orderSum iM_leastOrder rM_often iM_setMany iM_someOf iM_allOf iM_allWeight iM_enoughWeight iM_worthSum iM_firstRest iM_leastDrawn rQ fQ kQ p0 x_420 x_410 b_iM_taped b_iM_size b_iM_end b_iM_failed b_iM_hasCourt b_iM_undos b_iM_images b_iM_scale b_x_406 b_x_407 (by assumption) (by assumption) (by assumption) ⟨hk0.1, hk0.2⟩ ⟨(om_83b90de5 hi0_n_377.1 vx_420), (om_1ad1f819 cx_370 gc_378 vx_420)⟩ (by first | assumption | (have q0 := kc_0; have q1 := kc_1; first | exact ⟨by omega, by omega⟩ | omega) | decide | (intro h; exact absurd h (by decide)))) (cwV 4 hts (wd_V wd_783 wd_784 wd_785 wd_5 (wd_c wd_786)) rfl rfl rfl dv_yX7_cutFrom_4 ⟨(om_8728f9b4 n9), (om_05453fa9 n9)⟩) ⟨Pw.fb, recvX7 hK hP (q0 := 0) rfl, fun U hU hW => Pw.to (hP.ms _ hMs) (hD.ms _ hMs) (hK.ms [true, false, false, true, true] rfl) hE hS hFc hU hW⟩ rfl rfl hl.1 rfl (lv_room (Nat.le_of_ble_eq_true rfl)) dX7_hear_260 ⟨Nat.le_of_ble_eq_true rfl, Nat.le_of_ble_eq_true rfl⟩) hS (fun q _ h => hFc q h) hFc (fun r u t H locs ht hvm hw hB hz1 hk1 hS => ?_)
                          have hru9 := hw.2
                          have hw := hw.1
                          refine ex_2_3 hB (fun x_421 f_422 b_x_421 e_x_421_0 e_x_421_1 hB => ?_)
                          obtain ⟨hP, hD⟩ := Bw.goN (ws' := [(oc7 oM iM_thrown rM_tape iM_taped iM_size iM_at iM_end iM_token iM_whole iM_nameSize iM_fault iM_place iM_trouble rM_letters iM_failed iM_hasCourt rM_r rM_fresh rM_told rM_read rM_st rM_undone rM_kept iM_undos iM_images rM_fresher iM_fresherSize iM_scale iM_night rM_heardRow rM_cutRow x_406 x_421 iM_allBreaths rM_trial rM_words iM_fewestBreaths iM_orderMany iM_orderSum iM_leastOrder rM_often iM_setMany iM_someOf iM_allOf iM_allWeight iM_enoughWeight iM_worthSum iM_firstRest iM_leastDrawn), (arI rM_r kM_r 287 fM_r), (arI rM_told kM_told 90 fM_told), (arI rM_heardRow kM_heardRow 400 f_408), (arI rM_cutRow kM_cutRow 800 f_422), (arI rQ kQ 90 fQ)]) hB rfl ht hP hD _ hMs hk1 hFc rfl
                          clear hz1 hk1 hvm ht hB hMs
                          rw [← hru9] at e_x_421_1
                          obtain ⟨x_423, rfl⟩ : ∃ z, z = r := ⟨_, rfl⟩
                          have hG := hG.trans (un3_eq e_x_421_1)
                          exact wq_i hx hb hr (cI x_423) ⟨⟨trivial, trivial⟩, (cI_of x_423)⟩ (fun t ht hW => ⟨x_406, x_421, f_408, f_422, b_x_406, b_x_421, (by first | omega | decide | assumption), (cI_tup hG), Bw.to hP hD hK ht hW⟩) hS dX7_hear_263 hlocks
                  · skip
                    have hG := hG.trans (if_pos c_386)
                    have gc_386 := ti_eq c_386 rfl kc_1
                    exfalso; clear hG; omega
                · skip
                  have hG := hG.trans (if_pos c_385)
                  have gc_385 := ti_eq c_385 rfl kc_3
                  refine lv_iload hx hb dX7_hear_110 (lv_at hl 3 rfl) ?_
                  refine lv_aload_n hx hb dX7_hear_112 rfl (lv_at hl 5 rfl) ?_
                  refine lv_aload_n hx hb dX7_hear_113 rfl (lv_at hl 6 rfl) ?_
                  refine lv_iload hx hb dX7_hear_114 (lv_at hl 0 rfl) ?_
                  refine lv_ldc hx hb hown (hts _ wd_654) dX7_hear_116 ?_
                  refine lv_ldc hx hb hown (hts _ wd_653) dX7_hear_118 ?_
                  have hFc := va_freeI hD hS hA
                  refine va_calli (va_runV (As := [.ref rQ, .int x_384, .int (-100000000), .int 100000000]) (rest := [.int z_372]) ⟨hx, hb, hml, hown, hts⟩ (ih9 _ oM iM_thrown rM_tape iM_taped iM_size iM_at iM_end iM_token iM_whole iM_nameSize iM_fault iM_place iM_trouble rM_letters iM_failed iM_hasCourt rM_r fM_r kM_r rM_fresh rM_told fM_told kM_told rM_read rM_st rM_undone rM_kept iM_undos iM_images rM_fresher iM_fresherSize iM_scale iM_night rM_heardRow f_375 kM_heardRow rM_cutRow f_376 kM_cutRow z_373 z_374 iM_allBreaths rM_trial rM_words iM_fewestBreaths iM_orderMany iM_orderSum iM_leastOrder rM_often iM_setMany iM_someOf iM_allOf iM_allWeight iM_enoughWeight iM_worthSum iM_firstRest iM_leastDrawn rQ fQ kQ x_384 (-100000000) 100000000 b_iM_taped b_iM_size b_iM_end b_iM_failed b_iM_hasCourt b_iM_undos b_iM_images b_iM_scale b_z_373 b_z_374 (by assumption) (by assumption) (by assumption) (by assumption) ⟨wx_384.1, (om_90a71968 hk0.2 wx_384.2)⟩ (by first | assumption | (have q0 := kc_m100000000; have q1 := kc_0; have q2 := kc_1; have q3 := kc_100000000; first | exact ⟨by omega, by omega⟩ | omega) | decide | (intro h; exact absurd h (by decide))) (by first | assumption | (have q0 := kc_m100000000; have q1 := kc_0; have q2 := kc_1; have q3 := kc_100000000; first | exact ⟨by omega, by omega⟩ | omega) | decide | (intro h; exact absurd h (by decide)))) (cwV 4 hts (wd_V wd_779 wd_780 wd_781 wd_5 (wd_c wd_782)) rfl rfl rfl (by decide +kernel) ⟨(om_70783806 n9), (om_db56e044 n9)⟩) ⟨Pw.fb, recvX7 hK hP (q0 := 0) rfl, fun U hU hW => Pw.to hP hD hK hE hS hFc hU hW⟩ rfl rfl hl.1 rfl (lv_room (Nat.le_of_ble_eq_true rfl)) dX7_hear_120 ⟨Nat.le_of_ble_eq_true rfl, Nat.le_of_ble_eq_true rfl⟩) hS (fun q _ h => hFc q h) hFc (fun r u t H locs ht hvm hw hB hz1 hk1 hS => ?_)
                  have hru9 := hw.2
                  have hw := hw.1
                  refine ex_4_4 hB (fun x_424 x_425 f_426 f_427 b_x_424 b_x_425 e_x_424_0 e_x_424_1 hB => ?_)
                  obtain ⟨hP, hD⟩ := Bw.goA (ws' := [(oc7 oM iM_thrown rM_tape iM_taped iM_size iM_at iM_end iM_token iM_whole iM_nameSize iM_fault iM_place iM_trouble rM_letters iM_failed iM_hasCourt rM_r rM_fresh rM_told rM_read rM_st rM_undone rM_kept iM_undos iM_images rM_fresher iM_fresherSize iM_scale iM_night rM_heardRow rM_cutRow x_424 x_425 iM_allBreaths rM_trial rM_words iM_fewestBreaths iM_orderMany iM_orderSum iM_leastOrder rM_often iM_setMany iM_someOf iM_allOf iM_allWeight iM_enoughWeight iM_worthSum iM_firstRest iM_leastDrawn), (arI rM_r kM_r 287 fM_r), (arI rM_told kM_told 90 fM_told), (arI rM_heardRow kM_heardRow 400 f_426), (arI rM_cutRow kM_cutRow 800 f_427), (arI rQ kQ 90 fQ)]) hB rfl ht hFc rfl
                  clear hz1 hk1 hvm ht hB
                  rw [← hru9] at e_x_424_1
                  obtain ⟨x_428, rfl⟩ : ∃ z, z = r := ⟨_, rfl⟩
                  have hG := hG.trans (un5_eq e_x_424_1)
                  refine lv_aload_n hx hb dX7_hear_123 rfl (lv_at hl 5 rfl) ?_
                  refine lv_iload_n hx hb dX7_hear_124 rfl (lv_at hl 7 rfl) ?_
                  refine lv_iload hx hb dX7_hear_125 (lv_at hl 0 rfl) ?_
                  have hMs := ml_of hD [true, true, true, false, false, false] (wc := [(oc7 oM iM_thrown rM_tape iM_taped iM_size iM_at iM_end iM_token iM_whole iM_nameSize iM_fault iM_place iM_trouble rM_letters iM_failed iM_hasCourt rM_r rM_fresh rM_told rM_read rM_st rM_undone rM_kept iM_undos iM_images rM_fresher iM_fresherSize iM_scale iM_night rM_heardRow rM_cutRow x_424 x_425 iM_allBreaths rM_trial rM_words iM_fewestBreaths iM_orderMany iM_orderSum iM_leastOrder rM_often iM_setMany iM_someOf iM_allOf iM_allWeight iM_enoughWeight iM_worthSum iM_firstRest iM_leastDrawn), (arI rM_r kM_r 287 fM_r), (arI rM_told kM_told 90 fM_told)]) rfl
                  have hFc := va_freeM hD hS hA _ hMs
                  refine va_calli (va_runV (As := [.int p0, .int x_384]) (rest := [.int x_428, .int z_372]) ⟨hx, hb, hml, hown, hts⟩ (tX7_weightOf l dC dI _ oM iM_thrown rM_tape iM_taped iM_size iM_at iM_end iM_token iM_whole iM_nameSize iM_fault iM_place iM_trouble rM_letters iM_failed iM_hasCourt rM_r fM_r kM_r rM_fresh rM_told fM_told kM_told rM_read rM_st rM_undone rM_kept iM_undos iM_images rM_fresher iM_fresherSize iM_scale iM_night rM_heardRow rM_cutRow x_424 x_425 iM_allBreaths rM_trial rM_words iM_fewestBreaths iM_orderMany iM_orderSum iM_leastOrder rM_often iM_setMany iM_someOf iM_allOf iM_allWeight iM_enoughWeight iM_worthSum iM_firstRest iM_leastDrawn p0 x_384 b_iM_taped b_iM_size b_iM_end b_iM_failed b_iM_hasCourt b_iM_undos b_iM_images b_iM_scale b_x_424 b_x_425 (by assumption) (by assumption) (by assumption) ⟨hk0.1, hk0.2⟩) (cwV 2 hts (wd_V wd_587 wd_588 wd_589 wd_5 (wd_c wd_590)) rfl rfl rfl dv_yX7_weightOf_2 ⟨(om_8728f9b4 n9), (om_309dbbdf n9)⟩) ⟨Pw.fb, recvX7 hK hP (q0 := 0) rfl, fun U hU hW => Pw.to (hP.ms _ hMs) (hD.ms _ hMs) (hK.ms [true, true, false, false, false] rfl) hE hS hFc hU hW⟩ rfl rfl hl.1 rfl (lv_room (Nat.le_of_ble_eq_true rfl)) dX7_hear_127 ⟨Nat.le_of_ble_eq_true rfl, Nat.le_of_ble_eq_true rfl⟩) hS (fun q _ h => hFc q h) hFc (fun r u t H locs ht hvm hw hB hz1 hk1 hS => ?_)
                  have hru9 := hw.2
                  have hw := hw.1
                  obtain ⟨hP, hD⟩ := Bw.goN (ws' := [(oc7 oM iM_thrown rM_tape iM_taped iM_size iM_at iM_end iM_token iM_whole iM_nameSize iM_fault iM_place iM_trouble rM_letters iM_failed iM_hasCourt rM_r rM_fresh rM_told rM_read rM_st rM_undone rM_kept iM_undos iM_images rM_fresher iM_fresherSize iM_scale iM_night rM_heardRow rM_cutRow x_424 x_425 iM_allBreaths rM_trial rM_words iM_fewestBreaths iM_orderMany iM_orderSum iM_leastOrder rM_often iM_setMany iM_someOf iM_allOf iM_allWeight iM_enoughWeight iM_worthSum iM_firstRest iM_leastDrawn), (arI rM_r kM_r 287 fM_r), (arI rM_told kM_told 90 fM_told), (arI rM_heardRow kM_heardRow 400 f_426), (arI rM_cutRow kM_cutRow 800 f_427), (arI rQ kQ 90 fQ)]) hB rfl ht hP hD _ hMs hk1 hFc rfl
                  clear hz1 hk1 hvm ht hB hMs
                  obtain ⟨x_429, rfl⟩ : ∃ z, z = r := ⟨_, rfl⟩
                  have hG := hG.trans (lt_eq hru9.symm)
                  have ux_429 := hw.2
                  refine lv_imul hx hb dX7_hear_130 ?_
                  refine lv_topi (fun x_430 ex_430 => ?_)
                  have hG := hG.trans (lt_eq ex_430)
                  refine lv_iadd hx hb dX7_hear_131 ?_
                  refine lv_topi (fun x_431 ex_431 => ?_)
                  have hG := hG.trans (lt_eq ex_431)
                  refine lv_istore (lv' := [(6, .int x_431), (9, .int x_384), (8, .int z_371), (7, .int x_370), (5, .int x_365), (0, .ref oM), (1, .ref rQ), (2, .int p0), (3, .int p1), (4, .int p2)]) hx hb dX7_hear_132 hl (by decide) rfl (fun ls hl => ?_)
                  refine lv_goto (tgt := 264) hx hb dX7_hear_134 (by decide) ?_
                  obtain ⟨x_432, ex_432⟩ : ∃ z : Int32, z = z_371 + Int32.ofInt 1 := ⟨_, rfl⟩
                  have hG := hG.trans (lt_eq ex_432)
                  have vx_432 : x_432.toInt = z_371.toInt + 1 := ti_add (y := 1) ex_432 rfl kc_1 (om_4e4fce7e hi0_n_377.1) (om_d6392c09 mn_p0.2 hi0_n_377.2)
                  refine lv_iinc (v := x_432) (lv' := [(8, .int x_432), (6, .int x_431), (9, .int x_384), (7, .int x_370), (5, .int x_365), (0, .ref oM), (1, .ref rQ), (2, .int p0), (3, .int p1), (4, .int p2)]) hx hb dX7_hear_264 hl (k := 2) rfl ex_432.symm (by decide) rfl (fun ls hl => ?_)
                  refine lv_goto (tgt := 87) hx hb dX7_hear_267 (by decide) ?_
                  exact ih_n_377 x_432 x_431 x_424 x_425 f_426 f_427 _ _ _ b_x_424 b_x_425 ⟨(om_83b90de5 hi0_n_377.1 vx_432), (om_1ad1f819 cx_370 gc_378 vx_432)⟩ (by rw [show x_432.toNatClampNeg = z_371.toNatClampNeg + 1 from (by have q_1 := ti_cl (x := x_432) vx_432 (om_9548a8fd hi0_n_377.1); have q_2 := ti_cl (x := z_371) rfl hi0_n_377.1; omega)]; omega) (ms_lt hm_n_377 (om_dd4ae0bc vx_432) (om_6d498008 cx_370 gc_378)) hG hP hD hS (lv_sub hl [0, 3, 1, 4, 5, 6, 7, 8, 9] rfl)
          exact key_n_377 ((((fM_r (27 + p0.toNatClampNeg)).toInt - (0 : Int32).toInt).toNat) + 1) 0 0 iM_breaths iM_cutMany fM_heardRow fM_cutRow _ _ _ ⟨b_iM_breaths.1, b_iM_breaths.2⟩ ⟨b_iM_cutMany.1, b_iM_cutMany.2⟩ ⟨(om_b1de7dbe kc_0), (om_2dfe280d mn_p0.1 kc_0)⟩ (by first | (have q0 := kc_0; have q1 := kc_1; omega) | decide | assumption) (Nat.lt_add_one _) hG hP hD hS hl
        · skip
          have hG := hG.trans (if_pos c_368)
          have gc_368 := ti_eq c_368 rfl kc_1
          refine lv_ldc hx hb hown (hts _ wd_654) dX7_hear_65 ?_
          refine lv_goto (tgt := 71) hx hb dX7_hear_67 (by decide) ?_
          refine lv_istore (lv' := [(6, .int (-100000000)), (5, .int x_365), (0, .ref oM), (1, .ref rQ), (2, .int p0), (3, .int p1), (4, .int p2)]) hx hb dX7_hear_71 hl (by decide) rfl (fun ls hl => ?_)
          refine lv_aload_n hx hb dX7_hear_73 rfl (lv_at hl 2 rfl) ?_
          refine va_get (D := (dC, dI)) (ci := 7) (v := .ref rM_r) (C := RX7) (T := TX7) (N := 48) hx hb hts inX7 hown hK hP 0 rfl rfl 15 (by decide) (hts _ wd_155) (fun _ h9 => h9) rfl dX7_hear_74 ?_
          refine lv_bipush (v := 27) hx hb dX7_hear_77 (by decide) ?_
          refine lv_iload_n hx hb dX7_hear_79 rfl (lv_at hl 4 rfl) ?_
          refine lv_iadd hx hb dX7_hear_80 ?_
          refine lv_topi (fun x_433 ex_433 => ?_)
          have hG := hG.trans (lt_eq ex_433)
          have vx_433 : x_433.toInt = p0.toInt + 27 := om_6c48219a (ti_add ex_433 kc_27 rfl (om_edd3f7cf hk0.1) (om_cf6669ce hk0.2 s_nodes.2))
          refine va_iald hx hb hK hP 1 0 rfl rfl (ti_in vx_433 (om_b4b48b7f hk0.1) (om_420abfc6 hk0.2 s_nodes.2)) dX7_hear_81 ?_
          refine lv_topi (fun x_434 ex_434 => ?_)
          have hG := hG.trans (lt_eq ex_434)
          have kx_434 : (fM_r x_433.toNatClampNeg).toInt = x_434.toInt := by rw [ex_434]
          have cx_434 : (fM_r (27 + p0.toNatClampNeg)).toInt = x_434.toInt := by rw [show 27 + p0.toNatClampNeg = x_433.toNatClampNeg from (om_779a3124 (ti_cl (x := p0) rfl hk0.1) (ti_cl (x := x_433) vx_433 (om_b4b48b7f hk0.1)))]; exact kx_434
          have sx_434 := r_R.many x_433.toNatClampNeg (om_ab5399c3 (ti_cl (x := x_433) vx_433 (om_b4b48b7f hk0.1)) hk0.1) (om_3b68d876 (ti_cl (x := x_433) vx_433 (om_b4b48b7f hk0.1)) hk0.2 s_nodes.2)
          refine lv_istore (lv' := [(7, .int x_434), (6, .int (-100000000)), (5, .int x_365), (0, .ref oM), (1, .ref rQ), (2, .int p0), (3, .int p1), (4, .int p2)]) hx hb dX7_hear_82 hl (by decide) rfl (fun ls hl => ?_)
          refine lv_iconst (v := 0) hx hb dX7_hear_84 (by decide) ?_
          refine lv_istore (lv' := [(8, .int 0), (7, .int x_434), (6, .int (-100000000)), (5, .int x_365), (0, .ref oM), (1, .ref rQ), (2, .int p0), (3, .int p1), (4, .int p2)]) hx hb dX7_hear_85 hl (by decide) rfl (fun ls hl => ?_)
          have hl := lv_sub hl (l' := [(8, .int 0), (7, .int x_434), (6, .int (-100000000)), (5, .int x_365), (0, .ref oM), (1, .ref rQ), (2, .int p0), (3, .int p1), (4, .int p2)]) [0, 1, 2, 3, 4, 5, 6, 7, 8] rfl
          have key_n_441 : ∀ (n_441 : Nat) (z_435 : Int32) (z_436 : Int32) (z_437 : Int32) (z_438 : Int32) (f_439 : Nat → Int32) (f_440 : Nat → Int32) (H : Heap) (locs : List Loc) (ls : Array Slot), (0 ≤ z_437.toInt ∧ z_437.toInt ≤ 399) → (0 ≤ z_438.toInt ∧ z_438.toInt ≤ 399) → (0 ≤ z_435.toInt ∧ z_435.toInt ≤ (fM_r (27 + p0.toNatClampNeg)).toInt) → (z_437.toInt + z_438.toInt ≤ iM_breaths.toInt + iM_cutMany.toInt + (rsum fM_r fQ p0.toNatClampNeg (z_435.toNatClampNeg) : Int)) → ((fM_r (27 + p0.toNatClampNeg)).toInt - z_435.toInt).toNat < n_441 → (PX7_hear (n9 + 1) fM_r fM_told iM_scale fQ iM_breaths iM_cutMany fM_heardRow fM_cutRow p0 p1 p2 = HX7_hear_1 (PX7_hear n9) fM_r fM_told iM_scale fQ p0 p1 p2 x_365 x_434 n_441 z_435 z_436 z_437 z_438 f_439 f_440) → va_P (dC, dI) vwCl [(oc7 oM iM_thrown rM_tape iM_taped iM_size iM_at iM_end iM_token iM_whole iM_nameSize iM_fault iM_place iM_trouble rM_letters iM_failed iM_hasCourt rM_r rM_fresh rM_told rM_read rM_st rM_undone rM_kept iM_undos iM_images rM_fresher iM_fresherSize iM_scale iM_night rM_heardRow rM_cutRow z_437 z_438 iM_allBreaths rM_trial rM_words iM_fewestBreaths iM_orderMany iM_orderSum iM_leastOrder rM_often iM_setMany iM_someOf iM_allOf iM_allWeight iM_enoughWeight iM_worthSum iM_firstRest iM_leastDrawn), (arI rM_r kM_r 287 fM_r), (arI rM_told kM_told 90 fM_told), (arI rM_heardRow kM_heardRow 400 f_439), (arI rM_cutRow kM_cutRow 800 f_440), (arI rQ kQ 90 fQ)] H → va_D A [(oc7 oM iM_thrown rM_tape iM_taped iM_size iM_at iM_end iM_token iM_whole iM_nameSize iM_fault iM_place iM_trouble rM_letters iM_failed iM_hasCourt rM_r rM_fresh rM_told rM_read rM_st rM_undone rM_kept iM_undos iM_images rM_fresher iM_fresherSize iM_scale iM_night rM_heardRow rM_cutRow z_437 z_438 iM_allBreaths rM_trial rM_words iM_fewestBreaths iM_orderMany iM_orderSum iM_leastOrder rM_often iM_setMany iM_someOf iM_allOf iM_allWeight iM_enoughWeight iM_worthSum iM_firstRest iM_leastDrawn), (arI rM_r kM_r 287 fM_r), (arI rM_told kM_told 90 fM_told), (arI rM_heardRow kM_heardRow 400 f_439), (arI rM_cutRow kM_cutRow 800 f_440), (arI rQ kQ 90 fQ)] → va_S A s.heap H locs → lv_has ls 11 [(8, .int z_435), (7, .int x_434), (6, .int z_436), (5, .int x_365), (0, .ref oM), (1, .ref rQ), (2, .int p0), (3, .int p1), (4, .int p2)] → W p l e (headSpec (Cond.code yX7_hear cX7_hear 11 (some .int) :: wG) ({ frames := 1 + (n9 + 1), cells := 0, slots := 0, locals := 10 + 30 * (n9 + 1) })).room s m ([.ref oM, .ref rQ, .int p0, .int p1, .int p2] : List Value).toArray below meth c H locs 0 0 (MQ below (va_Qi (fun (r : Int32) (u : Nat) => (True ∧ True) ∧ r = Int32.ofNat u) (fun (u : Nat) (t : State) => ∃ (niM_breaths : Int32) (niM_cutMany : Int32) (nfM_heardRow : Nat → Int32) (nfM_cutRow : Nat → Int32), (0 ≤ niM_breaths.toInt ∧ niM_breaths.toInt ≤ 399) ∧ (0 ≤ niM_cutMany.toInt ∧ niM_cutMany.toInt ≤ 399) ∧ (niM_breaths.toInt + niM_cutMany.toInt ≤ iM_breaths.toInt + iM_cutMany.toInt + (wgt fM_r p0.toNatClampNeg : Int)) ∧ (PX7_hear (n9 + 1) fM_r fM_told iM_scale fQ iM_breaths iM_cutMany fM_heardRow fM_cutRow p0 p1 p2 = (Int32.ofNat u, niM_breaths, niM_cutMany, nfM_heardRow, nfM_cutRow)) ∧ Bw dC dI A [(oc7 oM iM_thrown rM_tape iM_taped iM_size iM_at iM_end iM_token iM_whole iM_nameSize iM_fault iM_place iM_trouble rM_letters iM_failed iM_hasCourt rM_r rM_fresh rM_told rM_read rM_st rM_undone rM_kept iM_undos iM_images rM_fresher iM_fresherSize iM_scale iM_night rM_heardRow rM_cutRow niM_breaths niM_cutMany iM_allBreaths rM_trial rM_words iM_fewestBreaths iM_orderMany iM_orderSum iM_leastOrder rM_often iM_setMany iM_someOf iM_allOf iM_allWeight iM_enoughWeight iM_worthSum iM_firstRest iM_leastDrawn), (arI rM_r kM_r 287 fM_r), (arI rM_told kM_told 90 fM_told), (arI rM_heardRow kM_heardRow 400 nfM_heardRow), (arI rM_cutRow kM_cutRow 800 nfM_cutRow), (arI rQ kQ 90 fQ)] [(kM_r, .int), (kM_told, .int), (kM_heardRow, .int), (kM_cutRow, .int), (kQ, .int)] t) A) ([.ref oM, .ref rQ, .int p0, .int p1, .int p2] : List Value).toArray s 0 0 A) (F0 m 87 ls []) := by
            intro n_441
            induction n_441 with
            | zero => intro z_435 z_436 z_437 z_438 f_439 f_440 H locs ls b_z_437 b_z_438 hi0_n_441 hi1_n_441 hm; exact absurd hm (Nat.not_lt_zero _)
            | succ n_441 ih_n_441 =>
              intro z_435 z_436 z_437 z_438 f_439 f_440 H locs ls b_z_437 b_z_438 hi0_n_441 hi1_n_441 hm_n_441 hG hP hD hS hl
              have hG := hG.trans (HX7_hear_1_eq _ _ _ _ _ _ _ _ _ _ _ _ _ _ _ _ _)
              have gp_z_435 := rsum_gap r_R r_Q (k := p0.toNatClampNeg) (i := z_435.toNatClampNeg) (m := (fM_r (27 + p0.toNatClampNeg)).toInt.toNat) (by have q_1 := ti_cl (x := p0) rfl hk0.1; omega) (by omega) (by omega) (by have q_2 := ti_cl (x := z_435) rfl (by omega); omega)
              have q_z_435 := ti_cl (x := z_435) rfl (by omega)
              refine lv_iload hx hb dX7_hear_87 (lv_at hl 0 rfl) ?_
              refine lv_iload hx hb dX7_hear_89 (lv_at hl 1 rfl) ?_
              refine lv_icmp_ge (tgt := 270) hx hb dX7_hear_91 (by decide) (fun c_442 => ?_) (fun c_442 => ?_)
              · skip
                have hG := hG.trans (if_pos c_442)
                have gc_442 := ti_le c_442 rfl rfl
                refine lv_iload hx hb dX7_hear_270 (lv_at hl 3 rfl) ?_
                refine lv_iconst (v := 3) hx hb dX7_hear_272 (by decide) ?_
                refine lv_icmp_ne (tgt := 287) hx hb dX7_hear_273 (by decide) (fun c_443 => ?_) (fun c_443 => ?_)
                · skip
                  have hG := hG.trans (if_neg c_443)
                  have gc_443 := ti_ne c_443 rfl kc_3
                  refine lv_iload hx hb dX7_hear_287 (lv_at hl 2 rfl) ?_
                  exact wq_i hx hb hr (cI z_436) ⟨⟨trivial, trivial⟩, (cI_of z_436)⟩ (fun t ht hW => ⟨z_437, z_438, f_439, f_440, b_z_437, b_z_438, (by first | omega | decide | assumption), (cI_tup hG), Bw.to hP hD hK ht hW⟩) hS dX7_hear_289 hlocks
                · skip
                  have hG := hG.trans (if_pos c_443)
                  have gc_443 := ti_eq c_443 rfl kc_3
                  exact ((om_3873ea92 gc_368 gc_443)).elim
              · skip
                have hG := hG.trans (if_neg c_442)
                have gc_442 := ti_nle c_442 rfl rfl
                refine lv_aload_n hx hb dX7_hear_94 rfl (lv_at hl 5 rfl) ?_
                refine lv_iconst (v := 4) hx hb dX7_hear_95 (by decide) ?_
                refine lv_iload_n hx hb dX7_hear_96 rfl (lv_at hl 6 rfl) ?_
                refine lv_imul hx hb dX7_hear_97 ?_
                refine lv_topi (fun x_444 ex_444 => ?_)
                have hG := hG.trans (lt_eq ex_444)
                have vx_444 : x_444.toInt = 4 * p0.toInt := ti_mul ex_444 kc_4 rfl (om_56b74365 hk0.1) (om_eac0354e hk0.2 s_nodes.2)
                refine lv_iload hx hb dX7_hear_98 (lv_at hl 0 rfl) ?_
                refine lv_iadd hx hb dX7_hear_100 ?_
                refine lv_topi (fun x_445 ex_445 => ?_)
                have hG := hG.trans (lt_eq ex_445)
                have vx_445 : x_445.toInt = 4 * p0.toInt + z_435.toInt := om_5d0caf0f (ti_add ex_445 vx_444 rfl (om_056a216f hk0.1 hi0_n_441.1) (om_da12a7f8 hk0.2 s_nodes.2 mn_p0.2 hi0_n_441.2))
                refine va_iald hx hb hK hP 5 4 rfl rfl (ti_in vx_445 (om_fc2812d4 hk0.1 hi0_n_441.1) (om_01db022b hk0.2 s_nodes.2 mn_p0.2 hi0_n_441.2)) dX7_hear_101 ?_
                refine lv_topi (fun x_446 ex_446 => ?_)
                have hG := hG.trans (lt_eq ex_446)
                have kx_446 : (fQ x_445.toNatClampNeg).toInt = x_446.toInt := by rw [ex_446]
                have cx_446 : (fQ (4 * p0.toNatClampNeg + z_435.toNatClampNeg)).toInt = x_446.toInt := by rw [show 4 * p0.toNatClampNeg + z_435.toNatClampNeg = x_445.toNatClampNeg from (om_4de36627 (ti_cl (x := p0) rfl hk0.1) (ti_cl (x := z_435) rfl hi0_n_441.1) (ti_cl (x := x_445) vx_445 (om_fc2812d4 hk0.1 hi0_n_441.1)))]; exact kx_446
                have wx_446 : 0 ≤ x_446.toInt ∧ x_446.toInt < p0.toInt := row_lt r_Q (i := z_435.toNatClampNeg) (ti_cl (x := p0) rfl hk0.1) (ti_cl (x := z_435) rfl hi0_n_441.1) hk0.2 (om_644b432c cx_434 gc_442) (om_24300f0a (ti_cl (x := p0) rfl hk0.1) (ti_cl (x := z_435) rfl hi0_n_441.1)) cx_446
                have pr_x_446 := rsum_at r_R r_Q (k := p0.toNatClampNeg) (i := z_435.toNatClampNeg) (z := x_446) (by have q_1 := ti_cl (x := p0) rfl hk0.1; omega) (by omega) (by have q_1 := ti_cl (x := z_435) rfl hi0_n_441.1; omega) (by have q_3 := cx_446; rw [show 4 * p0.toNatClampNeg + z_435.toNatClampNeg = 4 * p0.toNatClampNeg + z_435.toNatClampNeg from by omega]; omega)
                have q_z_435 := ti_cl (x := z_435) rfl hi0_n_441.1
                refine lv_istore (lv' := [(9, .int x_446), (8, .int z_435), (7, .int x_434), (6, .int z_436), (5, .int x_365), (0, .ref oM), (1, .ref rQ), (2, .int p0), (3, .int p1), (4, .int p2)]) hx hb dX7_hear_102 hl (by decide) rfl (fun ls hl => ?_)
                refine lv_iload hx hb dX7_hear_104 (lv_at hl 4 rfl) ?_
                refine lv_iconst (v := 3) hx hb dX7_hear_106 (by decide) ?_
                refine lv_icmp_ne (tgt := 137) hx hb dX7_hear_107 (by decide) (fun c_447 => ?_) (fun c_447 => ?_)
                · skip
                  have hG := hG.trans (if_neg c_447)
                  have gc_447 := ti_ne c_447 rfl kc_3
                  refine lv_iload hx hb dX7_hear_137 (lv_at hl 4 rfl) ?_
                  refine lv_iconst (v := 1) hx hb dX7_hear_139 (by decide) ?_
                  refine lv_icmp_ne (tgt := 205) hx hb dX7_hear_140 (by decide) (fun c_448 => ?_) (fun c_448 => ?_)
                  · skip
                    have hG := hG.trans (if_neg c_448)
                    have gc_448 := ti_ne c_448 rfl kc_1
                    exact (om_4c66930a gc_448 gc_368).elim
                  · skip
                    have hG := hG.trans (if_pos c_448)
                    have gc_448 := ti_eq c_448 rfl kc_1
                    refine lv_aload_n hx hb dX7_hear_143 rfl (lv_at hl 5 rfl) ?_
                    refine lv_aload_n hx hb dX7_hear_144 rfl (lv_at hl 6 rfl) ?_
                    refine lv_iload hx hb dX7_hear_145 (lv_at hl 0 rfl) ?_
                    refine lv_iload hx hb dX7_hear_147 (lv_at hl 3 rfl) ?_
                    refine lv_iload_n hx hb dX7_hear_149 rfl (lv_at hl 8 rfl) ?_
                    refine lv_icmp_le (tgt := 158) hx hb dX7_hear_150 (by decide) (fun c_449 => ?_) (fun c_449 => ?_)
                    · skip
                      have hG := hG.trans (if_pos c_449)
                      have gc_449 := ti_le c_449 rfl rfl
                      refine lv_iload_n hx hb dX7_hear_158 rfl (lv_at hl 8 rfl) ?_
                      refine lv_iload hx hb dX7_hear_159 (lv_at hl 9 rfl) ?_
                      have hFc := va_freeI hD hS hA
                      refine va_calli (va_runV (As := [.ref rQ, .int x_446, .int p1, .int p2]) (rest := []) ⟨hx, hb, hml, hown, hts⟩ (ih9 _ oM iM_thrown rM_tape iM_taped iM_size iM_at iM_end iM_token iM_whole iM_nameSize iM_fault iM_place iM_trouble rM_letters iM_failed iM_hasCourt rM_r fM_r kM_r rM_fresh rM_told fM_told kM_told rM_read rM_st rM_undone rM_kept iM_undos iM_images rM_fresher iM_fresherSize iM_scale iM_night rM_heardRow f_439 kM_heardRow rM_cutRow f_440 kM_cutRow z_437 z_438 iM_allBreaths rM_trial rM_words iM_fewestBreaths iM_orderMany iM_orderSum iM_leastOrder rM_often iM_setMany iM_someOf iM_allOf iM_allWeight iM_enoughWeight iM_worthSum iM_firstRest iM_leastDrawn rQ fQ kQ x_446 p1 p2 b_iM_taped b_iM_size b_iM_end b_iM_failed b_iM_hasCourt b_iM_undos b_iM_images b_iM_scale b_z_437 b_z_438 (by assumption) (by assumption) (by assumption) (by assumption) ⟨wx_446.1, (om_90a71968 hk0.2 wx_446.2)⟩ (by first | assumption | (have q0 := kc_0; have q1 := kc_1; first | exact ⟨by omega, by omega⟩ | omega) | decide | (intro h; exact absurd h (by decide))) (by first | assumption | (have q0 := kc_0; have q1 := kc_1; first | exact ⟨by omega, by omega⟩ | omega) | decide | (intro h; exact absurd h (by decide)))) (cwV 4 hts (wd_V wd_779 wd_780 wd_781 wd_5 (wd_c wd_782)) rfl rfl rfl (by decide +kernel) ⟨(om_70783806 n9), (om_db56e044 n9)⟩) ⟨Pw.fb, recvX7 hK hP (q0 := 0) rfl, fun U hU hW => Pw.to hP hD hK hE hS hFc hU hW⟩ rfl rfl hl.1 rfl (lv_room (Nat.le_of_ble_eq_true rfl)) dX7_hear_161 ⟨Nat.le_of_ble_eq_true rfl, Nat.le_of_ble_eq_true rfl⟩) hS (fun q _ h => hFc q h) hFc (fun r u t H locs ht hvm hw hB hz1 hk1 hS => ?_)
                      have hru9 := hw.2
                      have hw := hw.1
                      refine ex_4_4 hB (fun x_450 x_451 f_452 f_453 b_x_450 b_x_451 e_x_450_0 e_x_450_1 hB => ?_)
                      obtain ⟨hP, hD⟩ := Bw.goA (ws' := [(oc7 oM iM_thrown rM_tape iM_taped iM_size iM_at iM_end iM_token iM_whole iM_nameSize iM_fault iM_place iM_trouble rM_letters iM_failed iM_hasCourt rM_r rM_fresh rM_told rM_read rM_st rM_undone rM_kept iM_undos iM_images rM_fresher iM_fresherSize iM_scale iM_night rM_heardRow rM_cutRow x_450 x_451 iM_allBreaths rM_trial rM_words iM_fewestBreaths iM_orderMany iM_orderSum iM_leastOrder rM_often iM_setMany iM_someOf iM_allOf iM_allWeight iM_enoughWeight iM_worthSum iM_firstRest iM_leastDrawn), (arI rM_r kM_r 287 fM_r), (arI rM_told kM_told 90 fM_told), (arI rM_heardRow kM_heardRow 400 f_452), (arI rM_cutRow kM_cutRow 800 f_453), (arI rQ kQ 90 fQ)]) hB rfl ht hFc rfl
                      clear hz1 hk1 hvm ht hB
                      rw [← hru9] at e_x_450_1
                      obtain ⟨x_454, rfl⟩ : ∃ z, z = r := ⟨_, rfl⟩
                      have hG := hG.trans (un5_eq e_x_450_1)
                      refine lv_istore (lv' := [(10, .int x_454), (9, .int x_446), (8, .int z_435), (7, .int x_434), (6, .int z_436), (5, .int x_365), (0, .ref oM), (1, .ref rQ), (2, .int p0), (3, .int p1), (4, .int p2)]) hx hb dX7_hear_164 hl (by decide) rfl (fun ls hl => ?_)
                      refine lv_iload hx hb dX7_hear_166 (lv_at hl 0 rfl) ?_
                      refine lv_iload hx hb dX7_hear_168 (lv_at hl 4 rfl) ?_
                      refine lv_icmp_le (tgt := 178) hx hb dX7_hear_170 (by decide) (fun c_455 => ?_) (fun c_455 => ?_)
                      · skip
                        have hG := hG.trans (if_pos c_455)
                        have gc_455 := ti_le c_455 rfl rfl
                        refine lv_iload hx hb dX7_hear_178 (lv_at hl 4 rfl) ?_
                        refine lv_istore (lv' := [(6, .int z_436), (10, .int x_454), (9, .int x_446), (8, .int z_435), (7, .int x_434), (5, .int x_365), (0, .ref oM), (1, .ref rQ), (2, .int p0), (3, .int p1), (4, .int p2)]) hx hb dX7_hear_180 hl (by decide) rfl (fun ls hl => ?_)
                        refine lv_iload hx hb dX7_hear_182 (lv_at hl 0 rfl) ?_
                        refine lv_iload hx hb dX7_hear_184 (lv_at hl 10 rfl) ?_
                        refine lv_icmp_lt (tgt := 202) hx hb dX7_hear_186 (by decide) (fun c_456 => ?_) (fun c_456 => ?_)
                        · skip
                          have hG := hG.trans (if_pos c_456)
                          have gc_456 := ti_lt c_456 rfl rfl
                          refine lv_goto (tgt := 264) hx hb dX7_hear_202 (by decide) ?_
                          obtain ⟨x_457, ex_457⟩ : ∃ z : Int32, z = z_435 + Int32.ofInt 1 := ⟨_, rfl⟩
                          have hG := hG.trans (lt_eq ex_457)
                          have vx_457 : x_457.toInt = z_435.toInt + 1 := ti_add (y := 1) ex_457 rfl kc_1 (om_4e4fce7e hi0_n_441.1) (om_d6392c09 mn_p0.2 hi0_n_441.2)
                          refine lv_iinc (v := x_457) (lv' := [(8, .int x_457), (6, .int z_436), (10, .int x_454), (9, .int x_446), (7, .int x_434), (5, .int x_365), (0, .ref oM), (1, .ref rQ), (2, .int p0), (3, .int p1), (4, .int p2)]) hx hb dX7_hear_264 hl (k := 3) rfl ex_457.symm (by decide) rfl (fun ls hl => ?_)
                          refine lv_goto (tgt := 87) hx hb dX7_hear_267 (by decide) ?_
                          exact ih_n_441 x_457 z_436 x_450 x_451 f_452 f_453 _ _ _ b_x_450 b_x_451 ⟨(om_83b90de5 hi0_n_441.1 vx_457), (om_1ad1f819 cx_434 gc_442 vx_457)⟩ (by rw [show x_457.toNatClampNeg = z_435.toNatClampNeg + 1 from (by have q_1 := ti_cl (x := x_457) vx_457 (om_9548a8fd hi0_n_441.1); have q_2 := ti_cl (x := z_435) rfl hi0_n_441.1; omega)]; omega) (ms_lt hm_n_441 (om_dd4ae0bc vx_457) (om_6d498008 cx_434 gc_442)) hG hP hD hS (lv_sub hl [0, 4, 1, 5, 6, 7, 8, 9, 10] rfl)
                        · skip
                          have hG := hG.trans (if_neg c_456)
                          have gc_456 := ti_nlt c_456 rfl rfl
                          refine lv_aload_n hx hb dX7_hear_189 rfl (lv_at hl 6 rfl) ?_
                          refine lv_aload_n hx hb dX7_hear_190 rfl (lv_at hl 7 rfl) ?_
                          refine lv_iload_n hx hb dX7_hear_191 rfl (lv_at hl 8 rfl) ?_
                          refine lv_iload hx hb dX7_hear_192 (lv_at hl 3 rfl) ?_
                          refine lv_iconst (v := 1) hx hb dX7_hear_194 (by decide) ?_
                          refine lv_iadd hx hb dX7_hear_195 ?_
                          refine lv_topi (fun x_458 ex_458 => ?_)
                          have hG := hG.trans (lt_eq ex_458)
                          have vx_458 : x_458.toInt = z_435.toInt + 1 := ti_add ex_458 rfl kc_1 (om_4e4fce7e hi0_n_441.1) (om_d6392c09 mn_p0.2 hi0_n_441.2)
                          refine lv_iload hx hb dX7_hear_196 (lv_at hl 0 rfl) ?_
                          have hMs := ml_of hD [true, true, false, false, true, true] (wc := [(oc7 oM iM_thrown rM_tape iM_taped iM_size iM_at iM_end iM_token iM_whole iM_nameSize iM_fault iM_place iM_trouble rM_letters iM_failed iM_hasCourt rM_r rM_fresh rM_told rM_read rM_st rM_undone rM_kept iM_undos iM_images rM_fresher iM_fresherSize iM_scale iM_night rM_heardRow rM_cutRow x_450 x_451 iM_allBreaths rM_trial rM_words iM_fewestBreaths iM_orderMany iM_orderSum iM_leastOrder rM_often iM_setMany iM_someOf iM_allOf iM_allWeight iM_enoughWeight iM_worthSum iM_firstRest iM_leastDrawn), (arI rM_r kM_r 287 fM_r), (arI rM_cutRow kM_cutRow 800 f_453), (arI rQ kQ 90 fQ)]) rfl
                          have hFc := va_freeM hD hS hA _ hMs
                          refine va_calli (va_runV (As := [.ref rQ, .int p0, .int x_458, .int z_436]) (rest := []) ⟨hx, hb, hml, hown, hts⟩ (tX7_cutFrom l dC dI _ oM iM_thrown rM_tape iM_taped iM_size iM_at iM_end iM_token iM_whole iM_nameSize iM_fault iM_place iM_trouble rM_letters iM_failed iM_hasCourt rM_r fM_r kM_r rM_fresh rM_told rM_read rM_st rM_undone rM_kept iM_undos iM_images rM_fresher iM_fresherSize iM_scale iM_night rM_heardRow rM_cutRow f_453 kM_cutRow x_450 x_451 iM_allBreaths rM_trial rM_words iM_fewestBreaths iM_orderMany iM_orderSum iM_leastOrder rM_often iM_setMany iM_someOf iM_allOf iM_allWeight iM_enoughWeight iM_worthSum iM_firstRest iM_leastDrawn rQ fQ kQ p0 x_458 z_436 b_iM_taped b_iM_size b_iM_end b_iM_failed b_iM_hasCourt b_iM_undos b_iM_images b_iM_scale b_x_450 b_x_451 (by assumption) (by assumption) (by assumption) ⟨hk0.1, hk0.2⟩ ⟨(om_83b90de5 hi0_n_441.1 vx_458), (om_1ad1f819 cx_434 gc_442 vx_458)⟩ (by first | assumption | (have q0 := kc_0; have q1 := kc_1; first | exact ⟨by omega, by omega⟩ | omega) | decide | (intro h; exact absurd h (by decide)))) (cwV 4 hts (wd_V wd_783 wd_784 wd_785 wd_5 (wd_c wd_786)) rfl rfl rfl dv_yX7_cutFrom_4 ⟨(om_8728f9b4 n9), (om_05453fa9 n9)⟩) ⟨Pw.fb, recvX7 hK hP (q0 := 0) rfl, fun U hU hW => Pw.to (hP.ms _ hMs) (hD.ms _ hMs) (hK.ms [true, false, false, true, true] rfl) hE hS hFc hU hW⟩ rfl rfl hl.1 rfl (lv_room (Nat.le_of_ble_eq_true rfl)) dX7_hear_198 ⟨Nat.le_of_ble_eq_true rfl, Nat.le_of_ble_eq_true rfl⟩) hS (fun q _ h => hFc q h) hFc (fun r u t H locs ht hvm hw hB hz1 hk1 hS => ?_)
                          have hru9 := hw.2
                          have hw := hw.1
                          refine ex_2_3 hB (fun x_459 f_460 b_x_459 e_x_459_0 e_x_459_1 hB => ?_)
                          obtain ⟨hP, hD⟩ := Bw.goN (ws' := [(oc7 oM iM_thrown rM_tape iM_taped iM_size iM_at iM_end iM_token iM_whole iM_nameSize iM_fault iM_place iM_trouble rM_letters iM_failed iM_hasCourt rM_r rM_fresh rM_told rM_read rM_st rM_undone rM_kept iM_undos iM_images rM_fresher iM_fresherSize iM_scale iM_night rM_heardRow rM_cutRow x_450 x_459 iM_allBreaths rM_trial rM_words iM_fewestBreaths iM_orderMany iM_orderSum iM_leastOrder rM_often iM_setMany iM_someOf iM_allOf iM_allWeight iM_enoughWeight iM_worthSum iM_firstRest iM_leastDrawn), (arI rM_r kM_r 287 fM_r), (arI rM_told kM_told 90 fM_told), (arI rM_heardRow kM_heardRow 400 f_452), (arI rM_cutRow kM_cutRow 800 f_460), (arI rQ kQ 90 fQ)]) hB rfl ht hP hD _ hMs hk1 hFc rfl
                          clear hz1 hk1 hvm ht hB hMs
                          rw [← hru9] at e_x_459_1
                          obtain ⟨x_461, rfl⟩ : ∃ z, z = r := ⟨_, rfl⟩
                          have hG := hG.trans (un3_eq e_x_459_1)
                          exact wq_i hx hb hr (cI x_461) ⟨⟨trivial, trivial⟩, (cI_of x_461)⟩ (fun t ht hW => ⟨x_450, x_459, f_452, f_460, b_x_450, b_x_459, (by first | omega | decide | assumption), (cI_tup hG), Bw.to hP hD hK ht hW⟩) hS dX7_hear_201 hlocks
                      · skip
                        have hG := hG.trans (if_neg c_455)
                        have gc_455 := ti_nle c_455 rfl rfl
                        refine lv_iload hx hb dX7_hear_173 (lv_at hl 0 rfl) ?_
                        refine lv_goto (tgt := 180) hx hb dX7_hear_175 (by decide) ?_
                        refine lv_istore (lv' := [(6, .int x_454), (10, .int x_454), (9, .int x_446), (8, .int z_435), (7, .int x_434), (5, .int x_365), (0, .ref oM), (1, .ref rQ), (2, .int p0), (3, .int p1), (4, .int p2)]) hx hb dX7_hear_180 hl (by decide) rfl (fun ls hl => ?_)
                        refine lv_iload hx hb dX7_hear_182 (lv_at hl 0 rfl) ?_
                        refine lv_iload hx hb dX7_hear_184 (lv_at hl 10 rfl) ?_
                        refine lv_icmp_lt (tgt := 202) hx hb dX7_hear_186 (by decide) (fun c_462 => ?_) (fun c_462 => ?_)
                        · skip
                          have hG := hG.trans (if_pos c_462)
                          have gc_462 := ti_lt c_462 rfl rfl
                          refine lv_goto (tgt := 264) hx hb dX7_hear_202 (by decide) ?_
                          obtain ⟨x_463, ex_463⟩ : ∃ z : Int32, z = z_435 + Int32.ofInt 1 := ⟨_, rfl⟩
                          have hG := hG.trans (lt_eq ex_463)
                          have vx_463 : x_463.toInt = z_435.toInt + 1 := ti_add (y := 1) ex_463 rfl kc_1 (om_4e4fce7e hi0_n_441.1) (om_d6392c09 mn_p0.2 hi0_n_441.2)
                          refine lv_iinc (v := x_463) (lv' := [(8, .int x_463), (6, .int x_454), (10, .int x_454), (9, .int x_446), (7, .int x_434), (5, .int x_365), (0, .ref oM), (1, .ref rQ), (2, .int p0), (3, .int p1), (4, .int p2)]) hx hb dX7_hear_264 hl (k := 3) rfl ex_463.symm (by decide) rfl (fun ls hl => ?_)
                          refine lv_goto (tgt := 87) hx hb dX7_hear_267 (by decide) ?_
                          exact ih_n_441 x_463 x_454 x_450 x_451 f_452 f_453 _ _ _ b_x_450 b_x_451 ⟨(om_83b90de5 hi0_n_441.1 vx_463), (om_1ad1f819 cx_434 gc_442 vx_463)⟩ (by rw [show x_463.toNatClampNeg = z_435.toNatClampNeg + 1 from (by have q_1 := ti_cl (x := x_463) vx_463 (om_9548a8fd hi0_n_441.1); have q_2 := ti_cl (x := z_435) rfl hi0_n_441.1; omega)]; omega) (ms_lt hm_n_441 (om_dd4ae0bc vx_463) (om_6d498008 cx_434 gc_442)) hG hP hD hS (lv_sub hl [0, 4, 1, 5, 6, 7, 8, 9, 10] rfl)
                        · skip
                          have hG := hG.trans (if_neg c_462)
                          have gc_462 := ti_nlt c_462 rfl rfl
                          refine lv_aload_n hx hb dX7_hear_189 rfl (lv_at hl 6 rfl) ?_
                          refine lv_aload_n hx hb dX7_hear_190 rfl (lv_at hl 7 rfl) ?_
                          refine lv_iload_n hx hb dX7_hear_191 rfl (lv_at hl 8 rfl) ?_
                          refine lv_iload hx hb dX7_hear_192 (lv_at hl 3 rfl) ?_
                          refine lv_iconst (v := 1) hx hb dX7_hear_194 (by decide) ?_
                          refine lv_iadd hx hb dX7_hear_195 ?_
                          refine lv_topi (fun x_464 ex_464 => ?_)
                          have hG := hG.trans (lt_eq ex_464)
                          have vx_464 : x_464.toInt = z_435.toInt + 1 := ti_add ex_464 rfl kc_1 (om_4e4fce7e hi0_n_441.1) (om_d6392c09 mn_p0.2 hi0_n_441.2)
                          refine lv_iload hx hb dX7_hear_196 (lv_at hl 0 rfl) ?_
                          have hMs := ml_of hD [true, true, false, false, true, true] (wc := [(oc7 oM iM_thrown rM_tape iM_taped iM_size iM_at iM_end iM_token iM_whole iM_nameSize iM_fault iM_place iM_trouble rM_letters iM_failed iM_hasCourt rM_r rM_fresh rM_told rM_read rM_st rM_undone rM_kept iM_undos iM_images rM_fresher iM_fresherSize iM_scale iM_night rM_heardRow rM_cutRow x_450 x_451 iM_allBreaths rM_trial rM_words iM_fewestBreaths iM_orderMany iM_orderSum iM_leastOrder rM_often iM_setMany iM_someOf iM_allOf iM_allWeight iM_enoughWeight iM_worthSum iM_firstRest iM_leastDrawn), (arI rM_r kM_r 287 fM_r), (arI rM_cutRow kM_cutRow 800 f_453), (arI rQ kQ 90 fQ)]) rfl
                          have hFc := va_freeM hD hS hA _ hMs
                          refine va_calli (va_runV (As := [.ref rQ, .int p0, .int x_464, .int x_454]) (rest := []) ⟨hx, hb, hml, hown, hts⟩ (tX7_cutFrom l dC dI _ oM iM_thrown rM_tape iM_taped iM_size iM_at iM_end iM_token iM_whole iM_nameSize iM_fault iM_place iM_trouble rM_letters iM_failed iM_hasCourt rM_r fM_r kM_r rM_fresh rM_told rM_read rM_st rM_undone rM_kept iM_undos iM_images rM_fresher iM_fresherSize iM_scale iM_night rM_heardRow rM_cutRow f_453 kM_cutRow x_450 x_451 iM_allBreaths rM_trial rM_words iM_fewestBreaths iM_orderMany iM_orderSum iM_leastOrder rM_often iM_setMany iM_someOf iM_allOf iM_allWeight iM_enoughWeight iM_worthSum iM_firstRest iM_leastDrawn rQ fQ kQ p0 x_464 x_454 b_iM_taped b_iM_size b_iM_end b_iM_failed b_iM_hasCourt b_iM_undos b_iM_images b_iM_scale b_x_450 b_x_451 (by assumption) (by assumption) (by assumption) ⟨hk0.1, hk0.2⟩ ⟨(om_83b90de5 hi0_n_441.1 vx_464), (om_1ad1f819 cx_434 gc_442 vx_464)⟩ (by first | assumption | (have q0 := kc_0; have q1 := kc_1; first | exact ⟨by omega, by omega⟩ | omega) | decide | (intro h; exact absurd h (by decide)))) (cwV 4 hts (wd_V wd_783 wd_784 wd_785 wd_5 (wd_c wd_786)) rfl rfl rfl dv_yX7_cutFrom_4 ⟨(om_8728f9b4 n9), (om_05453fa9 n9)⟩) ⟨Pw.fb, recvX7 hK hP (q0 := 0) rfl, fun U hU hW => Pw.to (hP.ms _ hMs) (hD.ms _ hMs) (hK.ms [true, false, false, true, true] rfl) hE hS hFc hU hW⟩ rfl rfl hl.1 rfl (lv_room (Nat.le_of_ble_eq_true rfl)) dX7_hear_198 ⟨Nat.le_of_ble_eq_true rfl, Nat.le_of_ble_eq_true rfl⟩) hS (fun q _ h => hFc q h) hFc (fun r u t H locs ht hvm hw hB hz1 hk1 hS => ?_)
                          have hru9 := hw.2
                          have hw := hw.1
                          refine ex_2_3 hB (fun x_465 f_466 b_x_465 e_x_465_0 e_x_465_1 hB => ?_)
                          obtain ⟨hP, hD⟩ := Bw.goN (ws' := [(oc7 oM iM_thrown rM_tape iM_taped iM_size iM_at iM_end iM_token iM_whole iM_nameSize iM_fault iM_place iM_trouble rM_letters iM_failed iM_hasCourt rM_r rM_fresh rM_told rM_read rM_st rM_undone rM_kept iM_undos iM_images rM_fresher iM_fresherSize iM_scale iM_night rM_heardRow rM_cutRow x_450 x_465 iM_allBreaths rM_trial rM_words iM_fewestBreaths iM_orderMany iM_orderSum iM_leastOrder rM_often iM_setMany iM_someOf iM_allOf iM_allWeight iM_enoughWeight iM_worthSum iM_firstRest iM_leastDrawn), (arI rM_r kM_r 287 fM_r), (arI rM_told kM_told 90 fM_told), (arI rM_heardRow kM_heardRow 400 f_452), (arI rM_cutRow kM_cutRow 800 f_466), (arI rQ kQ 90 fQ)]) hB rfl ht hP hD _ hMs hk1 hFc rfl
                          clear hz1 hk1 hvm ht hB hMs
                          rw [← hru9] at e_x_465_1
                          obtain ⟨x_467, rfl⟩ : ∃ z, z = r := ⟨_, rfl⟩
                          have hG := hG.trans (un3_eq e_x_465_1)
                          exact wq_i hx hb hr (cI x_467) ⟨⟨trivial, trivial⟩, (cI_of x_467)⟩ (fun t ht hW => ⟨x_450, x_465, f_452, f_466, b_x_450, b_x_465, (by first | omega | decide | assumption), (cI_tup hG), Bw.to hP hD hK ht hW⟩) hS dX7_hear_201 hlocks
                    · skip
                      have hG := hG.trans (if_neg c_449)
                      have gc_449 := ti_nle c_449 rfl rfl
                      refine lv_iload hx hb dX7_hear_153 (lv_at hl 3 rfl) ?_
                      refine lv_goto (tgt := 159) hx hb dX7_hear_155 (by decide) ?_
                      refine lv_iload hx hb dX7_hear_159 (lv_at hl 9 rfl) ?_
                      have hFc := va_freeI hD hS hA
                      refine va_calli (va_runV (As := [.ref rQ, .int x_446, .int z_436, .int p2]) (rest := []) ⟨hx, hb, hml, hown, hts⟩ (ih9 _ oM iM_thrown rM_tape iM_taped iM_size iM_at iM_end iM_token iM_whole iM_nameSize iM_fault iM_place iM_trouble rM_letters iM_failed iM_hasCourt rM_r fM_r kM_r rM_fresh rM_told fM_told kM_told rM_read rM_st rM_undone rM_kept iM_undos iM_images rM_fresher iM_fresherSize iM_scale iM_night rM_heardRow f_439 kM_heardRow rM_cutRow f_440 kM_cutRow z_437 z_438 iM_allBreaths rM_trial rM_words iM_fewestBreaths iM_orderMany iM_orderSum iM_leastOrder rM_often iM_setMany iM_someOf iM_allOf iM_allWeight iM_enoughWeight iM_worthSum iM_firstRest iM_leastDrawn rQ fQ kQ x_446 z_436 p2 b_iM_taped b_iM_size b_iM_end b_iM_failed b_iM_hasCourt b_iM_undos b_iM_images b_iM_scale b_z_437 b_z_438 (by assumption) (by assumption) (by assumption) (by assumption) ⟨wx_446.1, (om_90a71968 hk0.2 wx_446.2)⟩ (by first | assumption | (have q0 := kc_0; have q1 := kc_1; first | exact ⟨by omega, by omega⟩ | omega) | decide | (intro h; exact absurd h (by decide))) (by first | assumption | (have q0 := kc_0; have q1 := kc_1; first | exact ⟨by omega, by omega⟩ | omega) | decide | (intro h; exact absurd h (by decide)))) (cwV 4 hts (wd_V wd_779 wd_780 wd_781 wd_5 (wd_c wd_782)) rfl rfl rfl (by decide +kernel) ⟨(om_70783806 n9), (om_db56e044 n9)⟩) ⟨Pw.fb, recvX7 hK hP (q0 := 0) rfl, fun U hU hW => Pw.to hP hD hK hE hS hFc hU hW⟩ rfl rfl hl.1 rfl (lv_room (Nat.le_of_ble_eq_true rfl)) dX7_hear_161 ⟨Nat.le_of_ble_eq_true rfl, Nat.le_of_ble_eq_true rfl⟩) hS (fun q _ h => hFc q h) hFc (fun r u t H locs ht hvm hw hB hz1 hk1 hS => ?_)
                      have hru9 := hw.2
                      have hw := hw.1
                      refine ex_4_4 hB (fun x_468 x_469 f_470 f_471 b_x_468 b_x_469 e_x_468_0 e_x_468_1 hB => ?_)
                      obtain ⟨hP, hD⟩ := Bw.goA (ws' := [(oc7 oM iM_thrown rM_tape iM_taped iM_size iM_at iM_end iM_token iM_whole iM_nameSize iM_fault iM_place iM_trouble rM_letters iM_failed iM_hasCourt rM_r rM_fresh rM_told rM_read rM_st rM_undone rM_kept iM_undos iM_images rM_fresher iM_fresherSize iM_scale iM_night rM_heardRow rM_cutRow x_468 x_469 iM_allBreaths rM_trial rM_words iM_fewestBreaths iM_orderMany iM_orderSum iM_leastOrder rM_often iM_setMany iM_someOf iM_allOf iM_allWeight iM_enoughWeight iM_worthSum iM_firstRest iM_leastDrawn), (arI rM_r kM_r 287 fM_r), (arI rM_told kM_told 90 fM_told), (arI rM_heardRow kM_heardRow 400 f_470), (arI rM_cutRow kM_cutRow 800 f_471), (arI rQ kQ 90 fQ)]) hB rfl ht hFc rfl
                      clear hz1 hk1 hvm ht hB
                      rw [← hru9] at e_x_468_1
                      obtain ⟨x_472, rfl⟩ : ∃ z, z = r := ⟨_, rfl⟩
                      have hG := hG.trans (un5_eq e_x_468_1)
                      refine lv_istore (lv' := [(10, .int x_472), (9, .int x_446), (8, .int z_435), (7, .int x_434), (6, .int z_436), (5, .int x_365), (0, .ref oM), (1, .ref rQ), (2, .int p0), (3, .int p1), (4, .int p2)]) hx hb dX7_hear_164 hl (by decide) rfl (fun ls hl => ?_)
                      refine lv_iload hx hb dX7_hear_166 (lv_at hl 0 rfl) ?_
                      refine lv_iload hx hb dX7_hear_168 (lv_at hl 4 rfl) ?_
                      refine lv_icmp_le (tgt := 178) hx hb dX7_hear_170 (by decide) (fun c_473 => ?_) (fun c_473 => ?_)
                      · skip
                        have hG := hG.trans (if_pos c_473)
                        have gc_473 := ti_le c_473 rfl rfl
                        refine lv_iload hx hb dX7_hear_178 (lv_at hl 4 rfl) ?_
                        refine lv_istore (lv' := [(6, .int z_436), (10, .int x_472), (9, .int x_446), (8, .int z_435), (7, .int x_434), (5, .int x_365), (0, .ref oM), (1, .ref rQ), (2, .int p0), (3, .int p1), (4, .int p2)]) hx hb dX7_hear_180 hl (by decide) rfl (fun ls hl => ?_)
                        refine lv_iload hx hb dX7_hear_182 (lv_at hl 0 rfl) ?_
                        refine lv_iload hx hb dX7_hear_184 (lv_at hl 10 rfl) ?_
                        refine lv_icmp_lt (tgt := 202) hx hb dX7_hear_186 (by decide) (fun c_474 => ?_) (fun c_474 => ?_)
                        · skip
                          have hG := hG.trans (if_pos c_474)
                          have gc_474 := ti_lt c_474 rfl rfl
                          refine lv_goto (tgt := 264) hx hb dX7_hear_202 (by decide) ?_
                          obtain ⟨x_475, ex_475⟩ : ∃ z : Int32, z = z_435 + Int32.ofInt 1 := ⟨_, rfl⟩
                          have hG := hG.trans (lt_eq ex_475)
                          have vx_475 : x_475.toInt = z_435.toInt + 1 := ti_add (y := 1) ex_475 rfl kc_1 (om_4e4fce7e hi0_n_441.1) (om_d6392c09 mn_p0.2 hi0_n_441.2)
                          refine lv_iinc (v := x_475) (lv' := [(8, .int x_475), (6, .int z_436), (10, .int x_472), (9, .int x_446), (7, .int x_434), (5, .int x_365), (0, .ref oM), (1, .ref rQ), (2, .int p0), (3, .int p1), (4, .int p2)]) hx hb dX7_hear_264 hl (k := 3) rfl ex_475.symm (by decide) rfl (fun ls hl => ?_)
                          refine lv_goto (tgt := 87) hx hb dX7_hear_267 (by decide) ?_
                          exact ih_n_441 x_475 z_436 x_468 x_469 f_470 f_471 _ _ _ b_x_468 b_x_469 ⟨(om_83b90de5 hi0_n_441.1 vx_475), (om_1ad1f819 cx_434 gc_442 vx_475)⟩ (by rw [show x_475.toNatClampNeg = z_435.toNatClampNeg + 1 from (by have q_1 := ti_cl (x := x_475) vx_475 (om_9548a8fd hi0_n_441.1); have q_2 := ti_cl (x := z_435) rfl hi0_n_441.1; omega)]; omega) (ms_lt hm_n_441 (om_dd4ae0bc vx_475) (om_6d498008 cx_434 gc_442)) hG hP hD hS (lv_sub hl [0, 4, 1, 5, 6, 7, 8, 9, 10] rfl)
                        · skip
                          have hG := hG.trans (if_neg c_474)
                          have gc_474 := ti_nlt c_474 rfl rfl
                          refine lv_aload_n hx hb dX7_hear_189 rfl (lv_at hl 6 rfl) ?_
                          refine lv_aload_n hx hb dX7_hear_190 rfl (lv_at hl 7 rfl) ?_
                          refine lv_iload_n hx hb dX7_hear_191 rfl (lv_at hl 8 rfl) ?_
                          refine lv_iload hx hb dX7_hear_192 (lv_at hl 3 rfl) ?_
                          refine lv_iconst (v := 1) hx hb dX7_hear_194 (by decide) ?_
                          refine lv_iadd hx hb dX7_hear_195 ?_
                          refine lv_topi (fun x_476 ex_476 => ?_)
                          have hG := hG.trans (lt_eq ex_476)
                          have vx_476 : x_476.toInt = z_435.toInt + 1 := ti_add ex_476 rfl kc_1 (om_4e4fce7e hi0_n_441.1) (om_d6392c09 mn_p0.2 hi0_n_441.2)
                          refine lv_iload hx hb dX7_hear_196 (lv_at hl 0 rfl) ?_
                          have hMs := ml_of hD [true, true, false, false, true, true] (wc := [(oc7 oM iM_thrown rM_tape iM_taped iM_size iM_at iM_end iM_token iM_whole iM_nameSize iM_fault iM_place iM_trouble rM_letters iM_failed iM_hasCourt rM_r rM_fresh rM_told rM_read rM_st rM_undone rM_kept iM_undos iM_images rM_fresher iM_fresherSize iM_scale iM_night rM_heardRow rM_cutRow x_468 x_469 iM_allBreaths rM_trial rM_words iM_fewestBreaths iM_orderMany iM_orderSum iM_leastOrder rM_often iM_setMany iM_someOf iM_allOf iM_allWeight iM_enoughWeight iM_worthSum iM_firstRest iM_leastDrawn), (arI rM_r kM_r 287 fM_r), (arI rM_cutRow kM_cutRow 800 f_471), (arI rQ kQ 90 fQ)]) rfl
                          have hFc := va_freeM hD hS hA _ hMs
                          refine va_calli (va_runV (As := [.ref rQ, .int p0, .int x_476, .int z_436]) (rest := []) ⟨hx, hb, hml, hown, hts⟩ (tX7_cutFrom l dC dI _ oM iM_thrown rM_tape iM_taped iM_size iM_at iM_end iM_token iM_whole iM_nameSize iM_fault iM_place iM_trouble rM_letters iM_failed iM_hasCourt rM_r fM_r kM_r rM_fresh rM_told rM_read rM_st rM_undone rM_kept iM_undos iM_images rM_fresher iM_fresherSize iM_scale iM_night rM_heardRow rM_cutRow f_471 kM_cutRow x_468 x_469 iM_allBreaths rM_trial rM_words iM_fewestBreaths iM_orderMany iM_orderSum iM_leastOrder rM_often iM_setMany iM_someOf iM_allOf iM_allWeight iM_enoughWeight iM_worthSum iM_firstRest iM_leastDrawn rQ fQ kQ p0 x_476 z_436 b_iM_taped b_iM_size b_iM_end b_iM_failed b_iM_hasCourt b_iM_undos b_iM_images b_iM_scale b_x_468 b_x_469 (by assumption) (by assumption) (by assumption) ⟨hk0.1, hk0.2⟩ ⟨(om_83b90de5 hi0_n_441.1 vx_476), (om_1ad1f819 cx_434 gc_442 vx_476)⟩ (by first | assumption | (have q0 := kc_0; have q1 := kc_1; first | exact ⟨by omega, by omega⟩ | omega) | decide | (intro h; exact absurd h (by decide)))) (cwV 4 hts (wd_V wd_783 wd_784 wd_785 wd_5 (wd_c wd_786)) rfl rfl rfl dv_yX7_cutFrom_4 ⟨(om_8728f9b4 n9), (om_05453fa9 n9)⟩) ⟨Pw.fb, recvX7 hK hP (q0 := 0) rfl, fun U hU hW => Pw.to (hP.ms _ hMs) (hD.ms _ hMs) (hK.ms [true, false, false, true, true] rfl) hE hS hFc hU hW⟩ rfl rfl hl.1 rfl (lv_room (Nat.le_of_ble_eq_true rfl)) dX7_hear_198 ⟨Nat.le_of_ble_eq_true rfl, Nat.le_of_ble_eq_true rfl⟩) hS (fun q _ h => hFc q h) hFc (fun r u t H locs ht hvm hw hB hz1 hk1 hS => ?_)
                          have hru9 := hw.2
                          have hw := hw.1
                          refine ex_2_3 hB (fun x_477 f_478 b_x_477 e_x_477_0 e_x_477_1 hB => ?_)
                          obtain ⟨hP, hD⟩ := Bw.goN (ws' := [(oc7 oM iM_thrown rM_tape iM_taped iM_size iM_at iM_end iM_token iM_whole iM_nameSize iM_fault iM_place iM_trouble rM_letters iM_failed iM_hasCourt rM_r rM_fresh rM_told rM_read rM_st rM_undone rM_kept iM_undos iM_images rM_fresher iM_fresherSize iM_scale iM_night rM_heardRow rM_cutRow x_468 x_477 iM_allBreaths rM_trial rM_words iM_fewestBreaths iM_orderMany iM_orderSum iM_leastOrder rM_often iM_setMany iM_someOf iM_allOf iM_allWeight iM_enoughWeight iM_worthSum iM_firstRest iM_leastDrawn), (arI rM_r kM_r 287 fM_r), (arI rM_told kM_told 90 fM_told), (arI rM_heardRow kM_heardRow 400 f_470), (arI rM_cutRow kM_cutRow 800 f_478), (arI rQ kQ 90 fQ)]) hB rfl ht hP hD _ hMs hk1 hFc rfl
                          clear hz1 hk1 hvm ht hB hMs
                          rw [← hru9] at e_x_477_1
                          obtain ⟨x_479, rfl⟩ : ∃ z, z = r := ⟨_, rfl⟩
                          have hG := hG.trans (un3_eq e_x_477_1)
                          exact wq_i hx hb hr (cI x_479) ⟨⟨trivial, trivial⟩, (cI_of x_479)⟩ (fun t ht hW => ⟨x_468, x_477, f_470, f_478, b_x_468, b_x_477, (by first | omega | decide | assumption), (cI_tup hG), Bw.to hP hD hK ht hW⟩) hS dX7_hear_201 hlocks
                      · skip
                        have hG := hG.trans (if_neg c_473)
                        have gc_473 := ti_nle c_473 rfl rfl
                        refine lv_iload hx hb dX7_hear_173 (lv_at hl 0 rfl) ?_
                        refine lv_goto (tgt := 180) hx hb dX7_hear_175 (by decide) ?_
                        refine lv_istore (lv' := [(6, .int x_472), (10, .int x_472), (9, .int x_446), (8, .int z_435), (7, .int x_434), (5, .int x_365), (0, .ref oM), (1, .ref rQ), (2, .int p0), (3, .int p1), (4, .int p2)]) hx hb dX7_hear_180 hl (by decide) rfl (fun ls hl => ?_)
                        refine lv_iload hx hb dX7_hear_182 (lv_at hl 0 rfl) ?_
                        refine lv_iload hx hb dX7_hear_184 (lv_at hl 10 rfl) ?_
                        refine lv_icmp_lt (tgt := 202) hx hb dX7_hear_186 (by decide) (fun c_480 => ?_) (fun c_480 => ?_)
                        · skip
                          have hG := hG.trans (if_pos c_480)
                          have gc_480 := ti_lt c_480 rfl rfl
                          refine lv_goto (tgt := 264) hx hb dX7_hear_202 (by decide) ?_
                          obtain ⟨x_481, ex_481⟩ : ∃ z : Int32, z = z_435 + Int32.ofInt 1 := ⟨_, rfl⟩
                          have hG := hG.trans (lt_eq ex_481)
                          have vx_481 : x_481.toInt = z_435.toInt + 1 := ti_add (y := 1) ex_481 rfl kc_1 (om_4e4fce7e hi0_n_441.1) (om_d6392c09 mn_p0.2 hi0_n_441.2)
                          refine lv_iinc (v := x_481) (lv' := [(8, .int x_481), (6, .int x_472), (10, .int x_472), (9, .int x_446), (7, .int x_434), (5, .int x_365), (0, .ref oM), (1, .ref rQ), (2, .int p0), (3, .int p1), (4, .int p2)]) hx hb dX7_hear_264 hl (k := 3) rfl ex_481.symm (by decide) rfl (fun ls hl => ?_)
                          refine lv_goto (tgt := 87) hx hb dX7_hear_267 (by decide) ?_
                          exact ih_n_441 x_481 x_472 x_468 x_469 f_470 f_471 _ _ _ b_x_468 b_x_469 ⟨(om_83b90de5 hi0_n_441.1 vx_481), (om_1ad1f819 cx_434 gc_442 vx_481)⟩ (by rw [show x_481.toNatClampNeg = z_435.toNatClampNeg + 1 from (by have q_1 := ti_cl (x := x_481) vx_481 (om_9548a8fd hi0_n_441.1); have q_2 := ti_cl (x := z_435) rfl hi0_n_441.1; omega)]; omega) (ms_lt hm_n_441 (om_dd4ae0bc vx_481) (om_6d498008 cx_434 gc_442)) hG hP hD hS (lv_sub hl [0, 4, 1, 5, 6, 7, 8, 9, 10] rfl)
                        · skip
                          have hG := hG.trans (if_neg c_480)
                          have gc_480 := ti_nlt c_480 rfl rfl
                          refine lv_aload_n hx hb dX7_hear_189 rfl (lv_at hl 6 rfl) ?_
                          refine lv_aload_n hx hb dX7_hear_190 rfl (lv_at hl 7 rfl) ?_
                          refine lv_iload_n hx hb dX7_hear_191 rfl (lv_at hl 8 rfl) ?_
                          refine lv_iload hx hb dX7_hear_192 (lv_at hl 3 rfl) ?_
                          refine lv_iconst (v := 1) hx hb dX7_hear_194 (by decide) ?_
                          refine lv_iadd hx hb dX7_hear_195 ?_
                          refine lv_topi (fun x_482 ex_482 => ?_)
                          have hG := hG.trans (lt_eq ex_482)
                          have vx_482 : x_482.toInt = z_435.toInt + 1 := ti_add ex_482 rfl kc_1 (om_4e4fce7e hi0_n_441.1) (om_d6392c09 mn_p0.2 hi0_n_441.2)
                          refine lv_iload hx hb dX7_hear_196 (lv_at hl 0 rfl) ?_
                          have hMs := ml_of hD [true, true, false, false, true, true] (wc := [(oc7 oM iM_thrown rM_tape iM_taped iM_size iM_at iM_end iM_token iM_whole iM_nameSize iM_fault iM_place iM_trouble rM_letters iM_failed iM_hasCourt rM_r rM_fresh rM_told rM_read rM_st rM_undone rM_kept iM_undos iM_images rM_fresher iM_fresherSize iM_scale iM_night rM_heardRow rM_cutRow x_468 x_469 iM_allBreaths rM_trial rM_words iM_fewestBreaths iM_orderMany iM_orderSum iM_leastOrder rM_often iM_setMany iM_someOf iM_allOf iM_allWeight iM_enoughWeight iM_worthSum iM_firstRest iM_leastDrawn), (arI rM_r kM_r 287 fM_r), (arI rM_cutRow kM_cutRow 800 f_471), (arI rQ kQ 90 fQ)]) rfl
                          have hFc := va_freeM hD hS hA _ hMs
                          refine va_calli (va_runV (As := [.ref rQ, .int p0, .int x_482, .int x_472]) (rest := []) ⟨hx, hb, hml, hown, hts⟩ (tX7_cutFrom l dC dI _ oM iM_thrown rM_tape iM_taped iM_size iM_at iM_end iM_token iM_whole iM_nameSize iM_fault iM_place iM_trouble rM_letters iM_failed iM_hasCourt rM_r fM_r kM_r rM_fresh rM_told rM_read rM_st rM_undone rM_kept iM_undos iM_images rM_fresher iM_fresherSize iM_scale iM_night rM_heardRow rM_cutRow f_471 kM_cutRow x_468 x_469 iM_allBreaths rM_trial rM_words iM_fewestBreaths iM_orderMany iM_orderSum iM_leastOrder rM_often iM_setMany iM_someOf iM_allOf iM_allWeight iM_enoughWeight iM_worthSum iM_firstRest iM_leastDrawn rQ fQ kQ p0 x_482 x_472 b_iM_taped b_iM_size b_iM_end b_iM_failed b_iM_hasCourt b_iM_undos b_iM_images b_iM_scale b_x_468 b_x_469 (by assumption) (by assumption) (by assumption) ⟨hk0.1, hk0.2⟩ ⟨(om_83b90de5 hi0_n_441.1 vx_482), (om_1ad1f819 cx_434 gc_442 vx_482)⟩ (by first | assumption | (have q0 := kc_0; have q1 := kc_1; first | exact ⟨by omega, by omega⟩ | omega) | decide | (intro h; exact absurd h (by decide)))) (cwV 4 hts (wd_V wd_783 wd_784 wd_785 wd_5 (wd_c wd_786)) rfl rfl rfl dv_yX7_cutFrom_4 ⟨(om_8728f9b4 n9), (om_05453fa9 n9)⟩) ⟨Pw.fb, recvX7 hK hP (q0 := 0) rfl, fun U hU hW => Pw.to (hP.ms _ hMs) (hD.ms _ hMs) (hK.ms [true, false, false, true, true] rfl) hE hS hFc hU hW⟩ rfl rfl hl.1 rfl (lv_room (Nat.le_of_ble_eq_true rfl)) dX7_hear_198 ⟨Nat.le_of_ble_eq_true rfl, Nat.le_of_ble_eq_true rfl⟩) hS (fun q _ h => hFc q h) hFc (fun r u t H locs ht hvm hw hB hz1 hk1 hS => ?_)
                          have hru9 := hw.2
                          have hw := hw.1
                          refine ex_2_3 hB (fun x_483 f_484 b_x_483 e_x_483_0 e_x_483_1 hB => ?_)
                          obtain ⟨hP, hD⟩ := Bw.goN (ws' := [(oc7 oM iM_thrown rM_tape iM_taped iM_size iM_at iM_end iM_token iM_whole iM_nameSize iM_fault iM_place iM_trouble rM_letters iM_failed iM_hasCourt rM_r rM_fresh rM_told rM_read rM_st rM_undone rM_kept iM_undos iM_images rM_fresher iM_fresherSize iM_scale iM_night rM_heardRow rM_cutRow x_468 x_483 iM_allBreaths rM_trial rM_words iM_fewestBreaths iM_orderMany iM_orderSum iM_leastOrder rM_often iM_setMany iM_someOf iM_allOf iM_allWeight iM_enoughWeight iM_worthSum iM_firstRest iM_leastDrawn), (arI rM_r kM_r 287 fM_r), (arI rM_told kM_told 90 fM_told), (arI rM_heardRow kM_heardRow 400 f_470), (arI rM_cutRow kM_cutRow 800 f_484), (arI rQ kQ 90 fQ)]) hB rfl ht hP hD _ hMs hk1 hFc rfl
                          clear hz1 hk1 hvm ht hB hMs
                          rw [← hru9] at e_x_483_1
                          obtain ⟨x_485, rfl⟩ : ∃ z, z = r := ⟨_, rfl⟩
                          have hG := hG.trans (un3_eq e_x_483_1)
                          exact wq_i hx hb hr (cI x_485) ⟨⟨trivial, trivial⟩, (cI_of x_485)⟩ (fun t ht hW => ⟨x_468, x_483, f_470, f_484, b_x_468, b_x_483, (by first | omega | decide | assumption), (cI_tup hG), Bw.to hP hD hK ht hW⟩) hS dX7_hear_201 hlocks
                · skip
                  have hG := hG.trans (if_pos c_447)
                  have gc_447 := ti_eq c_447 rfl kc_3
                  exact ((om_3873ea92 gc_368 gc_447)).elim
          exact key_n_441 ((((fM_r (27 + p0.toNatClampNeg)).toInt - (0 : Int32).toInt).toNat) + 1) 0 (-100000000) iM_breaths iM_cutMany fM_heardRow fM_cutRow _ _ _ ⟨b_iM_breaths.1, b_iM_breaths.2⟩ ⟨b_iM_cutMany.1, b_iM_cutMany.2⟩ ⟨(om_b1de7dbe kc_0), (om_2dfe280d mn_p0.1 kc_0)⟩ (by first | (have q0 := kc_m100000000; have q1 := kc_0; have q2 := kc_1; omega) | decide | assumption) (Nat.lt_add_one _) hG hP hD hS hl
      · skip
        have hG := hG.trans (if_pos c_367)
        have gc_367 := ti_eq c_367 rfl kc_2
        refine lv_ldc hx hb hown (hts _ wd_653) dX7_hear_54 ?_
        refine lv_goto (tgt := 71) hx hb dX7_hear_56 (by decide) ?_
        refine lv_istore (lv' := [(6, .int 100000000), (5, .int x_365), (0, .ref oM), (1, .ref rQ), (2, .int p0), (3, .int p1), (4, .int p2)]) hx hb dX7_hear_71 hl (by decide) rfl (fun ls hl => ?_)
        refine lv_aload_n hx hb dX7_hear_73 rfl (lv_at hl 2 rfl) ?_
        refine va_get (D := (dC, dI)) (ci := 7) (v := .ref rM_r) (C := RX7) (T := TX7) (N := 48) hx hb hts inX7 hown hK hP 0 rfl rfl 15 (by decide) (hts _ wd_155) (fun _ h9 => h9) rfl dX7_hear_74 ?_
        refine lv_bipush (v := 27) hx hb dX7_hear_77 (by decide) ?_
        refine lv_iload_n hx hb dX7_hear_79 rfl (lv_at hl 4 rfl) ?_
        refine lv_iadd hx hb dX7_hear_80 ?_
        refine lv_topi (fun x_486 ex_486 => ?_)
        have hG := hG.trans (lt_eq ex_486)
        have vx_486 : x_486.toInt = p0.toInt + 27 := om_6c48219a (ti_add ex_486 kc_27 rfl (om_edd3f7cf hk0.1) (om_cf6669ce hk0.2 s_nodes.2))
        refine va_iald hx hb hK hP 1 0 rfl rfl (ti_in vx_486 (om_b4b48b7f hk0.1) (om_420abfc6 hk0.2 s_nodes.2)) dX7_hear_81 ?_
        refine lv_topi (fun x_487 ex_487 => ?_)
        have hG := hG.trans (lt_eq ex_487)
        have kx_487 : (fM_r x_486.toNatClampNeg).toInt = x_487.toInt := by rw [ex_487]
        have cx_487 : (fM_r (27 + p0.toNatClampNeg)).toInt = x_487.toInt := by rw [show 27 + p0.toNatClampNeg = x_486.toNatClampNeg from (om_779a3124 (ti_cl (x := p0) rfl hk0.1) (ti_cl (x := x_486) vx_486 (om_b4b48b7f hk0.1)))]; exact kx_487
        have sx_487 := r_R.many x_486.toNatClampNeg (om_ab5399c3 (ti_cl (x := x_486) vx_486 (om_b4b48b7f hk0.1)) hk0.1) (om_3b68d876 (ti_cl (x := x_486) vx_486 (om_b4b48b7f hk0.1)) hk0.2 s_nodes.2)
        refine lv_istore (lv' := [(7, .int x_487), (6, .int 100000000), (5, .int x_365), (0, .ref oM), (1, .ref rQ), (2, .int p0), (3, .int p1), (4, .int p2)]) hx hb dX7_hear_82 hl (by decide) rfl (fun ls hl => ?_)
        refine lv_iconst (v := 0) hx hb dX7_hear_84 (by decide) ?_
        refine lv_istore (lv' := [(8, .int 0), (7, .int x_487), (6, .int 100000000), (5, .int x_365), (0, .ref oM), (1, .ref rQ), (2, .int p0), (3, .int p1), (4, .int p2)]) hx hb dX7_hear_85 hl (by decide) rfl (fun ls hl => ?_)
        have hl := lv_sub hl (l' := [(8, .int 0), (7, .int x_487), (6, .int 100000000), (5, .int x_365), (0, .ref oM), (1, .ref rQ), (2, .int p0), (3, .int p1), (4, .int p2)]) [0, 1, 2, 3, 4, 5, 6, 7, 8] rfl
        have key_n_494 : ∀ (n_494 : Nat) (z_488 : Int32) (z_489 : Int32) (z_490 : Int32) (z_491 : Int32) (f_492 : Nat → Int32) (f_493 : Nat → Int32) (H : Heap) (locs : List Loc) (ls : Array Slot), (0 ≤ z_490.toInt ∧ z_490.toInt ≤ 399) → (0 ≤ z_491.toInt ∧ z_491.toInt ≤ 399) → (0 ≤ z_488.toInt ∧ z_488.toInt ≤ (fM_r (27 + p0.toNatClampNeg)).toInt) → (z_490.toInt + z_491.toInt ≤ iM_breaths.toInt + iM_cutMany.toInt + (rsum fM_r fQ p0.toNatClampNeg (z_488.toNatClampNeg) : Int)) → ((fM_r (27 + p0.toNatClampNeg)).toInt - z_488.toInt).toNat < n_494 → (PX7_hear (n9 + 1) fM_r fM_told iM_scale fQ iM_breaths iM_cutMany fM_heardRow fM_cutRow p0 p1 p2 = HX7_hear_0 (PX7_hear n9) fM_r fM_told iM_scale fQ p0 p1 p2 x_365 x_487 n_494 z_488 z_489 z_490 z_491 f_492 f_493) → va_P (dC, dI) vwCl [(oc7 oM iM_thrown rM_tape iM_taped iM_size iM_at iM_end iM_token iM_whole iM_nameSize iM_fault iM_place iM_trouble rM_letters iM_failed iM_hasCourt rM_r rM_fresh rM_told rM_read rM_st rM_undone rM_kept iM_undos iM_images rM_fresher iM_fresherSize iM_scale iM_night rM_heardRow rM_cutRow z_490 z_491 iM_allBreaths rM_trial rM_words iM_fewestBreaths iM_orderMany iM_orderSum iM_leastOrder rM_often iM_setMany iM_someOf iM_allOf iM_allWeight iM_enoughWeight iM_worthSum iM_firstRest iM_leastDrawn), (arI rM_r kM_r 287 fM_r), (arI rM_told kM_told 90 fM_told), (arI rM_heardRow kM_heardRow 400 f_492), (arI rM_cutRow kM_cutRow 800 f_493), (arI rQ kQ 90 fQ)] H → va_D A [(oc7 oM iM_thrown rM_tape iM_taped iM_size iM_at iM_end iM_token iM_whole iM_nameSize iM_fault iM_place iM_trouble rM_letters iM_failed iM_hasCourt rM_r rM_fresh rM_told rM_read rM_st rM_undone rM_kept iM_undos iM_images rM_fresher iM_fresherSize iM_scale iM_night rM_heardRow rM_cutRow z_490 z_491 iM_allBreaths rM_trial rM_words iM_fewestBreaths iM_orderMany iM_orderSum iM_leastOrder rM_often iM_setMany iM_someOf iM_allOf iM_allWeight iM_enoughWeight iM_worthSum iM_firstRest iM_leastDrawn), (arI rM_r kM_r 287 fM_r), (arI rM_told kM_told 90 fM_told), (arI rM_heardRow kM_heardRow 400 f_492), (arI rM_cutRow kM_cutRow 800 f_493), (arI rQ kQ 90 fQ)] → va_S A s.heap H locs → lv_has ls 11 [(8, .int z_488), (7, .int x_487), (6, .int z_489), (5, .int x_365), (0, .ref oM), (1, .ref rQ), (2, .int p0), (3, .int p1), (4, .int p2)] → W p l e (headSpec (Cond.code yX7_hear cX7_hear 11 (some .int) :: wG) ({ frames := 1 + (n9 + 1), cells := 0, slots := 0, locals := 10 + 30 * (n9 + 1) })).room s m ([.ref oM, .ref rQ, .int p0, .int p1, .int p2] : List Value).toArray below meth c H locs 0 0 (MQ below (va_Qi (fun (r : Int32) (u : Nat) => (True ∧ True) ∧ r = Int32.ofNat u) (fun (u : Nat) (t : State) => ∃ (niM_breaths : Int32) (niM_cutMany : Int32) (nfM_heardRow : Nat → Int32) (nfM_cutRow : Nat → Int32), (0 ≤ niM_breaths.toInt ∧ niM_breaths.toInt ≤ 399) ∧ (0 ≤ niM_cutMany.toInt ∧ niM_cutMany.toInt ≤ 399) ∧ (niM_breaths.toInt + niM_cutMany.toInt ≤ iM_breaths.toInt + iM_cutMany.toInt + (wgt fM_r p0.toNatClampNeg : Int)) ∧ (PX7_hear (n9 + 1) fM_r fM_told iM_scale fQ iM_breaths iM_cutMany fM_heardRow fM_cutRow p0 p1 p2 = (Int32.ofNat u, niM_breaths, niM_cutMany, nfM_heardRow, nfM_cutRow)) ∧ Bw dC dI A [(oc7 oM iM_thrown rM_tape iM_taped iM_size iM_at iM_end iM_token iM_whole iM_nameSize iM_fault iM_place iM_trouble rM_letters iM_failed iM_hasCourt rM_r rM_fresh rM_told rM_read rM_st rM_undone rM_kept iM_undos iM_images rM_fresher iM_fresherSize iM_scale iM_night rM_heardRow rM_cutRow niM_breaths niM_cutMany iM_allBreaths rM_trial rM_words iM_fewestBreaths iM_orderMany iM_orderSum iM_leastOrder rM_often iM_setMany iM_someOf iM_allOf iM_allWeight iM_enoughWeight iM_worthSum iM_firstRest iM_leastDrawn), (arI rM_r kM_r 287 fM_r), (arI rM_told kM_told 90 fM_told), (arI rM_heardRow kM_heardRow 400 nfM_heardRow), (arI rM_cutRow kM_cutRow 800 nfM_cutRow), (arI rQ kQ 90 fQ)] [(kM_r, .int), (kM_told, .int), (kM_heardRow, .int), (kM_cutRow, .int), (kQ, .int)] t) A) ([.ref oM, .ref rQ, .int p0, .int p1, .int p2] : List Value).toArray s 0 0 A) (F0 m 87 ls []) := by
          intro n_494
          induction n_494 with
          | zero => intro z_488 z_489 z_490 z_491 f_492 f_493 H locs ls b_z_490 b_z_491 hi0_n_494 hi1_n_494 hm; exact absurd hm (Nat.not_lt_zero _)
          | succ n_494 ih_n_494 =>
            intro z_488 z_489 z_490 z_491 f_492 f_493 H locs ls b_z_490 b_z_491 hi0_n_494 hi1_n_494 hm_n_494 hG hP hD hS hl
            have hG := hG.trans (HX7_hear_0_eq _ _ _ _ _ _ _ _ _ _ _ _ _ _ _ _ _)
            have gp_z_488 := rsum_gap r_R r_Q (k := p0.toNatClampNeg) (i := z_488.toNatClampNeg) (m := (fM_r (27 + p0.toNatClampNeg)).toInt.toNat) (by have q_1 := ti_cl (x := p0) rfl hk0.1; omega) (by omega) (by omega) (by have q_2 := ti_cl (x := z_488) rfl (by omega); omega)
            have q_z_488 := ti_cl (x := z_488) rfl (by omega)
            refine lv_iload hx hb dX7_hear_87 (lv_at hl 0 rfl) ?_
            refine lv_iload hx hb dX7_hear_89 (lv_at hl 1 rfl) ?_
            refine lv_icmp_ge (tgt := 270) hx hb dX7_hear_91 (by decide) (fun c_495 => ?_) (fun c_495 => ?_)
            · skip
              have hG := hG.trans (if_pos c_495)
              have gc_495 := ti_le c_495 rfl rfl
              refine lv_iload hx hb dX7_hear_270 (lv_at hl 3 rfl) ?_
              refine lv_iconst (v := 3) hx hb dX7_hear_272 (by decide) ?_
              refine lv_icmp_ne (tgt := 287) hx hb dX7_hear_273 (by decide) (fun c_496 => ?_) (fun c_496 => ?_)
              · skip
                have hG := hG.trans (if_neg c_496)
                have gc_496 := ti_ne c_496 rfl kc_3
                refine lv_iload hx hb dX7_hear_287 (lv_at hl 2 rfl) ?_
                exact wq_i hx hb hr (cI z_489) ⟨⟨trivial, trivial⟩, (cI_of z_489)⟩ (fun t ht hW => ⟨z_490, z_491, f_492, f_493, b_z_490, b_z_491, (by first | omega | decide | assumption), (cI_tup hG), Bw.to hP hD hK ht hW⟩) hS dX7_hear_289 hlocks
              · skip
                have hG := hG.trans (if_pos c_496)
                have gc_496 := ti_eq c_496 rfl kc_3
                exact ((om_51643139 gc_367 gc_496)).elim
            · skip
              have hG := hG.trans (if_neg c_495)
              have gc_495 := ti_nle c_495 rfl rfl
              refine lv_aload_n hx hb dX7_hear_94 rfl (lv_at hl 5 rfl) ?_
              refine lv_iconst (v := 4) hx hb dX7_hear_95 (by decide) ?_
              refine lv_iload_n hx hb dX7_hear_96 rfl (lv_at hl 6 rfl) ?_
              refine lv_imul hx hb dX7_hear_97 ?_
              refine lv_topi (fun x_497 ex_497 => ?_)
              have hG := hG.trans (lt_eq ex_497)
              have vx_497 : x_497.toInt = 4 * p0.toInt := ti_mul ex_497 kc_4 rfl (om_56b74365 hk0.1) (om_eac0354e hk0.2 s_nodes.2)
              refine lv_iload hx hb dX7_hear_98 (lv_at hl 0 rfl) ?_
              refine lv_iadd hx hb dX7_hear_100 ?_
              refine lv_topi (fun x_498 ex_498 => ?_)
              have hG := hG.trans (lt_eq ex_498)
              have vx_498 : x_498.toInt = 4 * p0.toInt + z_488.toInt := om_5d0caf0f (ti_add ex_498 vx_497 rfl (om_056a216f hk0.1 hi0_n_494.1) (om_da12a7f8 hk0.2 s_nodes.2 mn_p0.2 hi0_n_494.2))
              refine va_iald hx hb hK hP 5 4 rfl rfl (ti_in vx_498 (om_fc2812d4 hk0.1 hi0_n_494.1) (om_01db022b hk0.2 s_nodes.2 mn_p0.2 hi0_n_494.2)) dX7_hear_101 ?_
              refine lv_topi (fun x_499 ex_499 => ?_)
              have hG := hG.trans (lt_eq ex_499)
              have kx_499 : (fQ x_498.toNatClampNeg).toInt = x_499.toInt := by rw [ex_499]
              have cx_499 : (fQ (4 * p0.toNatClampNeg + z_488.toNatClampNeg)).toInt = x_499.toInt := by rw [show 4 * p0.toNatClampNeg + z_488.toNatClampNeg = x_498.toNatClampNeg from (om_4de36627 (ti_cl (x := p0) rfl hk0.1) (ti_cl (x := z_488) rfl hi0_n_494.1) (ti_cl (x := x_498) vx_498 (om_fc2812d4 hk0.1 hi0_n_494.1)))]; exact kx_499
              have wx_499 : 0 ≤ x_499.toInt ∧ x_499.toInt < p0.toInt := row_lt r_Q (i := z_488.toNatClampNeg) (ti_cl (x := p0) rfl hk0.1) (ti_cl (x := z_488) rfl hi0_n_494.1) hk0.2 (om_644b432c cx_487 gc_495) (om_24300f0a (ti_cl (x := p0) rfl hk0.1) (ti_cl (x := z_488) rfl hi0_n_494.1)) cx_499
              have pr_x_499 := rsum_at r_R r_Q (k := p0.toNatClampNeg) (i := z_488.toNatClampNeg) (z := x_499) (by have q_1 := ti_cl (x := p0) rfl hk0.1; omega) (by omega) (by have q_1 := ti_cl (x := z_488) rfl hi0_n_494.1; omega) (by have q_3 := cx_499; rw [show 4 * p0.toNatClampNeg + z_488.toNatClampNeg = 4 * p0.toNatClampNeg + z_488.toNatClampNeg from by omega]; omega)
              have q_z_488 := ti_cl (x := z_488) rfl hi0_n_494.1
              refine lv_istore (lv' := [(9, .int x_499), (8, .int z_488), (7, .int x_487), (6, .int z_489), (5, .int x_365), (0, .ref oM), (1, .ref rQ), (2, .int p0), (3, .int p1), (4, .int p2)]) hx hb dX7_hear_102 hl (by decide) rfl (fun ls hl => ?_)
              refine lv_iload hx hb dX7_hear_104 (lv_at hl 4 rfl) ?_
              refine lv_iconst (v := 3) hx hb dX7_hear_106 (by decide) ?_
              refine lv_icmp_ne (tgt := 137) hx hb dX7_hear_107 (by decide) (fun c_500 => ?_) (fun c_500 => ?_)
              · skip
                have hG := hG.trans (if_neg c_500)
                have gc_500 := ti_ne c_500 rfl kc_3
                refine lv_iload hx hb dX7_hear_137 (lv_at hl 4 rfl) ?_
                refine lv_iconst (v := 1) hx hb dX7_hear_139 (by decide) ?_
                refine lv_icmp_ne (tgt := 205) hx hb dX7_hear_140 (by decide) (fun c_501 => ?_) (fun c_501 => ?_)
                · skip
                  have hG := hG.trans (if_neg c_501)
                  have gc_501 := ti_ne c_501 rfl kc_1
                  refine lv_aload_n hx hb dX7_hear_205 rfl (lv_at hl 5 rfl) ?_
                  refine lv_aload_n hx hb dX7_hear_206 rfl (lv_at hl 6 rfl) ?_
                  refine lv_iload hx hb dX7_hear_207 (lv_at hl 0 rfl) ?_
                  refine lv_iload_n hx hb dX7_hear_209 rfl (lv_at hl 8 rfl) ?_
                  refine lv_iload hx hb dX7_hear_210 (lv_at hl 3 rfl) ?_
                  refine lv_iload hx hb dX7_hear_212 (lv_at hl 9 rfl) ?_
                  refine lv_icmp_ge (tgt := 222) hx hb dX7_hear_214 (by decide) (fun c_502 => ?_) (fun c_502 => ?_)
                  · skip
                    have hG := hG.trans (if_pos c_502)
                    have gc_502 := ti_le c_502 rfl rfl
                    refine lv_iload hx hb dX7_hear_222 (lv_at hl 9 rfl) ?_
                    have hFc := va_freeI hD hS hA
                    refine va_calli (va_runV (As := [.ref rQ, .int x_499, .int p1, .int p2]) (rest := []) ⟨hx, hb, hml, hown, hts⟩ (ih9 _ oM iM_thrown rM_tape iM_taped iM_size iM_at iM_end iM_token iM_whole iM_nameSize iM_fault iM_place iM_trouble rM_letters iM_failed iM_hasCourt rM_r fM_r kM_r rM_fresh rM_told fM_told kM_told rM_read rM_st rM_undone rM_kept iM_undos iM_images rM_fresher iM_fresherSize iM_scale iM_night rM_heardRow f_492 kM_heardRow rM_cutRow f_493 kM_cutRow z_490 z_491 iM_allBreaths rM_trial rM_words iM_fewestBreaths iM_orderMany iM_orderSum iM_leastOrder rM_often iM_setMany iM_someOf iM_allOf iM_allWeight iM_enoughWeight iM_worthSum iM_firstRest iM_leastDrawn rQ fQ kQ x_499 p1 p2 b_iM_taped b_iM_size b_iM_end b_iM_failed b_iM_hasCourt b_iM_undos b_iM_images b_iM_scale b_z_490 b_z_491 (by assumption) (by assumption) (by assumption) (by assumption) ⟨wx_499.1, (om_90a71968 hk0.2 wx_499.2)⟩ (by first | assumption | (have q0 := kc_0; have q1 := kc_1; first | exact ⟨by omega, by omega⟩ | omega) | decide | (intro h; exact absurd h (by decide))) (by first | assumption | (have q0 := kc_0; have q1 := kc_1; first | exact ⟨by omega, by omega⟩ | omega) | decide | (intro h; exact absurd h (by decide)))) (cwV 4 hts (wd_V wd_779 wd_780 wd_781 wd_5 (wd_c wd_782)) rfl rfl rfl (by decide +kernel) ⟨(om_70783806 n9), (om_db56e044 n9)⟩) ⟨Pw.fb, recvX7 hK hP (q0 := 0) rfl, fun U hU hW => Pw.to hP hD hK hE hS hFc hU hW⟩ rfl rfl hl.1 rfl (lv_room (Nat.le_of_ble_eq_true rfl)) dX7_hear_224 ⟨Nat.le_of_ble_eq_true rfl, Nat.le_of_ble_eq_true rfl⟩) hS (fun q _ h => hFc q h) hFc (fun r u t H locs ht hvm hw hB hz1 hk1 hS => ?_)
                    have hru9 := hw.2
                    have hw := hw.1
                    refine ex_4_4 hB (fun x_503 x_504 f_505 f_506 b_x_503 b_x_504 e_x_503_0 e_x_503_1 hB => ?_)
                    obtain ⟨hP, hD⟩ := Bw.goA (ws' := [(oc7 oM iM_thrown rM_tape iM_taped iM_size iM_at iM_end iM_token iM_whole iM_nameSize iM_fault iM_place iM_trouble rM_letters iM_failed iM_hasCourt rM_r rM_fresh rM_told rM_read rM_st rM_undone rM_kept iM_undos iM_images rM_fresher iM_fresherSize iM_scale iM_night rM_heardRow rM_cutRow x_503 x_504 iM_allBreaths rM_trial rM_words iM_fewestBreaths iM_orderMany iM_orderSum iM_leastOrder rM_often iM_setMany iM_someOf iM_allOf iM_allWeight iM_enoughWeight iM_worthSum iM_firstRest iM_leastDrawn), (arI rM_r kM_r 287 fM_r), (arI rM_told kM_told 90 fM_told), (arI rM_heardRow kM_heardRow 400 f_505), (arI rM_cutRow kM_cutRow 800 f_506), (arI rQ kQ 90 fQ)]) hB rfl ht hFc rfl
                    clear hz1 hk1 hvm ht hB
                    rw [← hru9] at e_x_503_1
                    obtain ⟨x_507, rfl⟩ : ∃ z, z = r := ⟨_, rfl⟩
                    have hG := hG.trans (un5_eq e_x_503_1)
                    refine lv_istore (lv' := [(10, .int x_507), (9, .int x_499), (8, .int z_488), (7, .int x_487), (6, .int z_489), (5, .int x_365), (0, .ref oM), (1, .ref rQ), (2, .int p0), (3, .int p1), (4, .int p2)]) hx hb dX7_hear_227 hl (by decide) rfl (fun ls hl => ?_)
                    refine lv_iload hx hb dX7_hear_229 (lv_at hl 0 rfl) ?_
                    refine lv_iload hx hb dX7_hear_231 (lv_at hl 4 rfl) ?_
                    refine lv_icmp_ge (tgt := 241) hx hb dX7_hear_233 (by decide) (fun c_508 => ?_) (fun c_508 => ?_)
                    · skip
                      have hG := hG.trans (if_pos c_508)
                      have gc_508 := ti_le c_508 rfl rfl
                      refine lv_iload hx hb dX7_hear_241 (lv_at hl 4 rfl) ?_
                      refine lv_istore (lv' := [(6, .int z_489), (10, .int x_507), (9, .int x_499), (8, .int z_488), (7, .int x_487), (5, .int x_365), (0, .ref oM), (1, .ref rQ), (2, .int p0), (3, .int p1), (4, .int p2)]) hx hb dX7_hear_243 hl (by decide) rfl (fun ls hl => ?_)
                      refine lv_iload hx hb dX7_hear_245 (lv_at hl 0 rfl) ?_
                      refine lv_iload_n hx hb dX7_hear_247 rfl (lv_at hl 9 rfl) ?_
                      refine lv_icmp_gt (tgt := 264) hx hb dX7_hear_248 (by decide) (fun c_509 => ?_) (fun c_509 => ?_)
                      · skip
                        have hG := hG.trans (if_pos c_509)
                        have gc_509 := ti_lt c_509 rfl rfl
                        obtain ⟨x_510, ex_510⟩ : ∃ z : Int32, z = z_488 + Int32.ofInt 1 := ⟨_, rfl⟩
                        have hG := hG.trans (lt_eq ex_510)
                        have vx_510 : x_510.toInt = z_488.toInt + 1 := ti_add (y := 1) ex_510 rfl kc_1 (om_4e4fce7e hi0_n_494.1) (om_d6392c09 mn_p0.2 hi0_n_494.2)
                        refine lv_iinc (v := x_510) (lv' := [(8, .int x_510), (6, .int z_489), (10, .int x_507), (9, .int x_499), (7, .int x_487), (5, .int x_365), (0, .ref oM), (1, .ref rQ), (2, .int p0), (3, .int p1), (4, .int p2)]) hx hb dX7_hear_264 hl (k := 3) rfl ex_510.symm (by decide) rfl (fun ls hl => ?_)
                        refine lv_goto (tgt := 87) hx hb dX7_hear_267 (by decide) ?_
                        exact ih_n_494 x_510 z_489 x_503 x_504 f_505 f_506 _ _ _ b_x_503 b_x_504 ⟨(om_83b90de5 hi0_n_494.1 vx_510), (om_1ad1f819 cx_487 gc_495 vx_510)⟩ (by rw [show x_510.toNatClampNeg = z_488.toNatClampNeg + 1 from (by have q_1 := ti_cl (x := x_510) vx_510 (om_9548a8fd hi0_n_494.1); have q_2 := ti_cl (x := z_488) rfl hi0_n_494.1; omega)]; omega) (ms_lt hm_n_494 (om_dd4ae0bc vx_510) (om_6d498008 cx_487 gc_495)) hG hP hD hS (lv_sub hl [0, 4, 1, 5, 6, 7, 8, 9, 10] rfl)
                      · skip
                        have hG := hG.trans (if_neg c_509)
                        have gc_509 := ti_nlt c_509 rfl rfl
                        refine lv_aload_n hx hb dX7_hear_251 rfl (lv_at hl 6 rfl) ?_
                        refine lv_aload_n hx hb dX7_hear_252 rfl (lv_at hl 7 rfl) ?_
                        refine lv_iload_n hx hb dX7_hear_253 rfl (lv_at hl 8 rfl) ?_
                        refine lv_iload hx hb dX7_hear_254 (lv_at hl 3 rfl) ?_
                        refine lv_iconst (v := 1) hx hb dX7_hear_256 (by decide) ?_
                        refine lv_iadd hx hb dX7_hear_257 ?_
                        refine lv_topi (fun x_511 ex_511 => ?_)
                        have hG := hG.trans (lt_eq ex_511)
                        have vx_511 : x_511.toInt = z_488.toInt + 1 := ti_add ex_511 rfl kc_1 (om_4e4fce7e hi0_n_494.1) (om_d6392c09 mn_p0.2 hi0_n_494.2)
                        refine lv_iload hx hb dX7_hear_258 (lv_at hl 0 rfl) ?_
                        have hMs := ml_of hD [true, true, false, false, true, true] (wc := [(oc7 oM iM_thrown rM_tape iM_taped iM_size iM_at iM_end iM_token iM_whole iM_nameSize iM_fault iM_place iM_trouble rM_letters iM_failed iM_hasCourt rM_r rM_fresh rM_told rM_read rM_st rM_undone rM_kept iM_undos iM_images rM_fresher iM_fresherSize iM_scale iM_night rM_heardRow rM_cutRow x_503 x_504 iM_allBreaths rM_trial rM_words iM_fewestBreaths iM_orderMany iM_orderSum iM_leastOrder rM_often iM_setMany iM_someOf iM_allOf iM_allWeight iM_enoughWeight iM_worthSum iM_firstRest iM_leastDrawn), (arI rM_r kM_r 287 fM_r), (arI rM_cutRow kM_cutRow 800 f_506), (arI rQ kQ 90 fQ)]) rfl
                        have hFc := va_freeM hD hS hA _ hMs
                        refine va_calli (va_runV (As := [.ref rQ, .int p0, .int x_511, .int z_489]) (rest := []) ⟨hx, hb, hml, hown, hts⟩ (tX7_cutFrom l dC dI _ oM iM_thrown rM_tape iM_taped iM_size iM_at iM_end iM_token iM_whole iM_nameSize iM_fault iM_place iM_trouble rM_letters iM_failed iM_hasCourt rM_r fM_r kM_r rM_fresh rM_told rM_read rM_st rM_undone rM_kept iM_undos iM_images rM_fresher iM_fresherSize iM_scale iM_night rM_heardRow rM_cutRow f_506 kM_cutRow x_503 x_504 iM_allBreaths rM_trial rM_words iM_fewestBreaths iM_orderMany iM_orderSum iM_leastOrder rM_often iM_setMany iM_someOf iM_allOf iM_allWeight iM_enoughWeight iM_worthSum iM_firstRest iM_leastDrawn rQ fQ kQ p0 x_511 z_489 b_iM_taped b_iM_size b_iM_end b_iM_failed b_iM_hasCourt b_iM_undos b_iM_images b_iM_scale b_x_503 b_x_504 (by assumption) (by assumption) (by assumption) ⟨hk0.1, hk0.2⟩ ⟨(om_83b90de5 hi0_n_494.1 vx_511), (om_1ad1f819 cx_487 gc_495 vx_511)⟩ (by first | assumption | (have q0 := kc_0; have q1 := kc_1; first | exact ⟨by omega, by omega⟩ | omega) | decide | (intro h; exact absurd h (by decide)))) (cwV 4 hts (wd_V wd_783 wd_784 wd_785 wd_5 (wd_c wd_786)) rfl rfl rfl dv_yX7_cutFrom_4 ⟨(om_8728f9b4 n9), (om_05453fa9 n9)⟩) ⟨Pw.fb, recvX7 hK hP (q0 := 0) rfl, fun U hU hW => Pw.to (hP.ms _ hMs) (hD.ms _ hMs) (hK.ms [true, false, false, true, true] rfl) hE hS hFc hU hW⟩ rfl rfl hl.1 rfl (lv_room (Nat.le_of_ble_eq_true rfl)) dX7_hear_260 ⟨Nat.le_of_ble_eq_true rfl, Nat.le_of_ble_eq_true rfl⟩) hS (fun q _ h => hFc q h) hFc (fun r u t H locs ht hvm hw hB hz1 hk1 hS => ?_)
                        have hru9 := hw.2
                        have hw := hw.1
                        refine ex_2_3 hB (fun x_512 f_513 b_x_512 e_x_512_0 e_x_512_1 hB => ?_)
                        obtain ⟨hP, hD⟩ := Bw.goN (ws' := [(oc7 oM iM_thrown rM_tape iM_taped iM_size iM_at iM_end iM_token iM_whole iM_nameSize iM_fault iM_place iM_trouble rM_letters iM_failed iM_hasCourt rM_r rM_fresh rM_told rM_read rM_st rM_undone rM_kept iM_undos iM_images rM_fresher iM_fresherSize iM_scale iM_night rM_heardRow rM_cutRow x_503 x_512 iM_allBreaths rM_trial rM_words iM_fewestBreaths iM_orderMany iM_orderSum iM_leastOrder rM_often iM_setMany iM_someOf iM_allOf iM_allWeight iM_enoughWeight iM_worthSum iM_firstRest iM_leastDrawn), (arI rM_r kM_r 287 fM_r), (arI rM_told kM_told 90 fM_told), (arI rM_heardRow kM_heardRow 400 f_505), (arI rM_cutRow kM_cutRow 800 f_513), (arI rQ kQ 90 fQ)]) hB rfl ht hP hD _ hMs hk1 hFc rfl
                        clear hz1 hk1 hvm ht hB hMs
                        rw [← hru9] at e_x_512_1
                        obtain ⟨x_514, rfl⟩ : ∃ z, z = r := ⟨_, rfl⟩
                        have hG := hG.trans (un3_eq e_x_512_1)
                        exact wq_i hx hb hr (cI x_514) ⟨⟨trivial, trivial⟩, (cI_of x_514)⟩ (fun t ht hW => ⟨x_503, x_512, f_505, f_513, b_x_503, b_x_512, (by first | omega | decide | assumption), (cI_tup hG), Bw.to hP hD hK ht hW⟩) hS dX7_hear_263 hlocks
                    · skip
                      have hG := hG.trans (if_neg c_508)
                      have gc_508 := ti_nle c_508 rfl rfl
                      refine lv_iload hx hb dX7_hear_236 (lv_at hl 0 rfl) ?_
                      refine lv_goto (tgt := 243) hx hb dX7_hear_238 (by decide) ?_
                      refine lv_istore (lv' := [(6, .int x_507), (10, .int x_507), (9, .int x_499), (8, .int z_488), (7, .int x_487), (5, .int x_365), (0, .ref oM), (1, .ref rQ), (2, .int p0), (3, .int p1), (4, .int p2)]) hx hb dX7_hear_243 hl (by decide) rfl (fun ls hl => ?_)
                      refine lv_iload hx hb dX7_hear_245 (lv_at hl 0 rfl) ?_
                      refine lv_iload_n hx hb dX7_hear_247 rfl (lv_at hl 9 rfl) ?_
                      refine lv_icmp_gt (tgt := 264) hx hb dX7_hear_248 (by decide) (fun c_515 => ?_) (fun c_515 => ?_)
                      · skip
                        have hG := hG.trans (if_pos c_515)
                        have gc_515 := ti_lt c_515 rfl rfl
                        obtain ⟨x_516, ex_516⟩ : ∃ z : Int32, z = z_488 + Int32.ofInt 1 := ⟨_, rfl⟩
                        have hG := hG.trans (lt_eq ex_516)
                        have vx_516 : x_516.toInt = z_488.toInt + 1 := ti_add (y := 1) ex_516 rfl kc_1 (om_4e4fce7e hi0_n_494.1) (om_d6392c09 mn_p0.2 hi0_n_494.2)
                        refine lv_iinc (v := x_516) (lv' := [(8, .int x_516), (6, .int x_507), (10, .int x_507), (9, .int x_499), (7, .int x_487), (5, .int x_365), (0, .ref oM), (1, .ref rQ), (2, .int p0), (3, .int p1), (4, .int p2)]) hx hb dX7_hear_264 hl (k := 3) rfl ex_516.symm (by decide) rfl (fun ls hl => ?_)
                        refine lv_goto (tgt := 87) hx hb dX7_hear_267 (by decide) ?_
                        exact ih_n_494 x_516 x_507 x_503 x_504 f_505 f_506 _ _ _ b_x_503 b_x_504 ⟨(om_83b90de5 hi0_n_494.1 vx_516), (om_1ad1f819 cx_487 gc_495 vx_516)⟩ (by rw [show x_516.toNatClampNeg = z_488.toNatClampNeg + 1 from (by have q_1 := ti_cl (x := x_516) vx_516 (om_9548a8fd hi0_n_494.1); have q_2 := ti_cl (x := z_488) rfl hi0_n_494.1; omega)]; omega) (ms_lt hm_n_494 (om_dd4ae0bc vx_516) (om_6d498008 cx_487 gc_495)) hG hP hD hS (lv_sub hl [0, 4, 1, 5, 6, 7, 8, 9, 10] rfl)
                      · skip
                        have hG := hG.trans (if_neg c_515)
                        have gc_515 := ti_nlt c_515 rfl rfl
                        refine lv_aload_n hx hb dX7_hear_251 rfl (lv_at hl 6 rfl) ?_
                        refine lv_aload_n hx hb dX7_hear_252 rfl (lv_at hl 7 rfl) ?_
                        refine lv_iload_n hx hb dX7_hear_253 rfl (lv_at hl 8 rfl) ?_
                        refine lv_iload hx hb dX7_hear_254 (lv_at hl 3 rfl) ?_
                        refine lv_iconst (v := 1) hx hb dX7_hear_256 (by decide) ?_
                        refine lv_iadd hx hb dX7_hear_257 ?_
                        refine lv_topi (fun x_517 ex_517 => ?_)
                        have hG := hG.trans (lt_eq ex_517)
                        have vx_517 : x_517.toInt = z_488.toInt + 1 := ti_add ex_517 rfl kc_1 (om_4e4fce7e hi0_n_494.1) (om_d6392c09 mn_p0.2 hi0_n_494.2)
                        refine lv_iload hx hb dX7_hear_258 (lv_at hl 0 rfl) ?_
                        have hMs := ml_of hD [true, true, false, false, true, true] (wc := [(oc7 oM iM_thrown rM_tape iM_taped iM_size iM_at iM_end iM_token iM_whole iM_nameSize iM_fault iM_place iM_trouble rM_letters iM_failed iM_hasCourt rM_r rM_fresh rM_told rM_read rM_st rM_undone rM_kept iM_undos iM_images rM_fresher iM_fresherSize iM_scale iM_night rM_heardRow rM_cutRow x_503 x_504 iM_allBreaths rM_trial rM_words iM_fewestBreaths iM_orderMany iM_orderSum iM_leastOrder rM_often iM_setMany iM_someOf iM_allOf iM_allWeight iM_enoughWeight iM_worthSum iM_firstRest iM_leastDrawn), (arI rM_r kM_r 287 fM_r), (arI rM_cutRow kM_cutRow 800 f_506), (arI rQ kQ 90 fQ)]) rfl
                        have hFc := va_freeM hD hS hA _ hMs
                        refine va_calli (va_runV (As := [.ref rQ, .int p0, .int x_517, .int x_507]) (rest := []) ⟨hx, hb, hml, hown, hts⟩ (tX7_cutFrom l dC dI _ oM iM_thrown rM_tape iM_taped iM_size iM_at iM_end iM_token iM_whole iM_nameSize iM_fault iM_place iM_trouble rM_letters iM_failed iM_hasCourt rM_r fM_r kM_r rM_fresh rM_told rM_read rM_st rM_undone rM_kept iM_undos iM_images rM_fresher iM_fresherSize iM_scale iM_night rM_heardRow rM_cutRow f_506 kM_cutRow x_503 x_504 iM_allBreaths rM_trial rM_words iM_fewestBreaths iM_orderMany iM_orderSum iM_leastOrder rM_often iM_setMany iM_someOf iM_allOf iM_allWeight iM_enoughWeight iM_worthSum iM_firstRest iM_leastDrawn rQ fQ kQ p0 x_517 x_507 b_iM_taped b_iM_size b_iM_end b_iM_failed b_iM_hasCourt b_iM_undos b_iM_images b_iM_scale b_x_503 b_x_504 (by assumption) (by assumption) (by assumption) ⟨hk0.1, hk0.2⟩ ⟨(om_83b90de5 hi0_n_494.1 vx_517), (om_1ad1f819 cx_487 gc_495 vx_517)⟩ (by first | assumption | (have q0 := kc_0; have q1 := kc_1; first | exact ⟨by omega, by omega⟩ | omega) | decide | (intro h; exact absurd h (by decide)))) (cwV 4 hts (wd_V wd_783 wd_784 wd_785 wd_5 (wd_c wd_786)) rfl rfl rfl dv_yX7_cutFrom_4 ⟨(om_8728f9b4 n9), (om_05453fa9 n9)⟩) ⟨Pw.fb, recvX7 hK hP (q0 := 0) rfl, fun U hU hW => Pw.to (hP.ms _ hMs) (hD.ms _ hMs) (hK.ms [true, false, false, true, true] rfl) hE hS hFc hU hW⟩ rfl rfl hl.1 rfl (lv_room (Nat.le_of_ble_eq_true rfl)) dX7_hear_260 ⟨Nat.le_of_ble_eq_true rfl, Nat.le_of_ble_eq_true rfl⟩) hS (fun q _ h => hFc q h) hFc (fun r u t H locs ht hvm hw hB hz1 hk1 hS => ?_)
                        have hru9 := hw.2
                        have hw := hw.1
                        refine ex_2_3 hB (fun x_518 f_519 b_x_518 e_x_518_0 e_x_518_1 hB => ?_)
                        obtain ⟨hP, hD⟩ := Bw.goN (ws' := [(oc7 oM iM_thrown rM_tape iM_taped iM_size iM_at iM_end iM_token iM_whole iM_nameSize iM_fault iM_place iM_trouble rM_letters iM_failed iM_hasCourt rM_r rM_fresh rM_told rM_read rM_st rM_undone rM_kept iM_undos iM_images rM_fresher iM_fresherSize iM_scale iM_night rM_heardRow rM_cutRow x_503 x_518 iM_allBreaths rM_trial rM_words iM_fewestBreaths iM_orderMany iM_orderSum iM_leastOrder rM_often iM_setMany iM_someOf iM_allOf iM_allWeight iM_enoughWeight iM_worthSum iM_firstRest iM_leastDrawn), (arI rM_r kM_r 287 fM_r), (arI rM_told kM_told 90 fM_told), (arI rM_heardRow kM_heardRow 400 f_505), (arI rM_cutRow kM_cutRow 800 f_519), (arI rQ kQ 90 fQ)]) hB rfl ht hP hD _ hMs hk1 hFc rfl
                        clear hz1 hk1 hvm ht hB hMs
                        rw [← hru9] at e_x_518_1
                        obtain ⟨x_520, rfl⟩ : ∃ z, z = r := ⟨_, rfl⟩
                        have hG := hG.trans (un3_eq e_x_518_1)
                        exact wq_i hx hb hr (cI x_520) ⟨⟨trivial, trivial⟩, (cI_of x_520)⟩ (fun t ht hW => ⟨x_503, x_518, f_505, f_519, b_x_503, b_x_518, (by first | omega | decide | assumption), (cI_tup hG), Bw.to hP hD hK ht hW⟩) hS dX7_hear_263 hlocks
                  · skip
                    have hG := hG.trans (if_neg c_502)
                    have gc_502 := ti_nle c_502 rfl rfl
                    refine lv_iload hx hb dX7_hear_217 (lv_at hl 3 rfl) ?_
                    refine lv_goto (tgt := 224) hx hb dX7_hear_219 (by decide) ?_
                    have hFc := va_freeI hD hS hA
                    refine va_calli (va_runV (As := [.ref rQ, .int x_499, .int p1, .int z_489]) (rest := []) ⟨hx, hb, hml, hown, hts⟩ (ih9 _ oM iM_thrown rM_tape iM_taped iM_size iM_at iM_end iM_token iM_whole iM_nameSize iM_fault iM_place iM_trouble rM_letters iM_failed iM_hasCourt rM_r fM_r kM_r rM_fresh rM_told fM_told kM_told rM_read rM_st rM_undone rM_kept iM_undos iM_images rM_fresher iM_fresherSize iM_scale iM_night rM_heardRow f_492 kM_heardRow rM_cutRow f_493 kM_cutRow z_490 z_491 iM_allBreaths rM_trial rM_words iM_fewestBreaths iM_orderMany iM_orderSum iM_leastOrder rM_often iM_setMany iM_someOf iM_allOf iM_allWeight iM_enoughWeight iM_worthSum iM_firstRest iM_leastDrawn rQ fQ kQ x_499 p1 z_489 b_iM_taped b_iM_size b_iM_end b_iM_failed b_iM_hasCourt b_iM_undos b_iM_images b_iM_scale b_z_490 b_z_491 (by assumption) (by assumption) (by assumption) (by assumption) ⟨wx_499.1, (om_90a71968 hk0.2 wx_499.2)⟩ (by first | assumption | (have q0 := kc_0; have q1 := kc_1; first | exact ⟨by omega, by omega⟩ | omega) | decide | (intro h; exact absurd h (by decide))) (by first | assumption | (have q0 := kc_0; have q1 := kc_1; first | exact ⟨by omega, by omega⟩ | omega) | decide | (intro h; exact absurd h (by decide)))) (cwV 4 hts (wd_V wd_779 wd_780 wd_781 wd_5 (wd_c wd_782)) rfl rfl rfl (by decide +kernel) ⟨(om_70783806 n9), (om_db56e044 n9)⟩) ⟨Pw.fb, recvX7 hK hP (q0 := 0) rfl, fun U hU hW => Pw.to hP hD hK hE hS hFc hU hW⟩ rfl rfl hl.1 rfl (lv_room (Nat.le_of_ble_eq_true rfl)) dX7_hear_224 ⟨Nat.le_of_ble_eq_true rfl, Nat.le_of_ble_eq_true rfl⟩) hS (fun q _ h => hFc q h) hFc (fun r u t H locs ht hvm hw hB hz1 hk1 hS => ?_)
                    have hru9 := hw.2
                    have hw := hw.1
                    refine ex_4_4 hB (fun x_521 x_522 f_523 f_524 b_x_521 b_x_522 e_x_521_0 e_x_521_1 hB => ?_)
                    obtain ⟨hP, hD⟩ := Bw.goA (ws' := [(oc7 oM iM_thrown rM_tape iM_taped iM_size iM_at iM_end iM_token iM_whole iM_nameSize iM_fault iM_place iM_trouble rM_letters iM_failed iM_hasCourt rM_r rM_fresh rM_told rM_read rM_st rM_undone rM_kept iM_undos iM_images rM_fresher iM_fresherSize iM_scale iM_night rM_heardRow rM_cutRow x_521 x_522 iM_allBreaths rM_trial rM_words iM_fewestBreaths iM_orderMany iM_orderSum iM_leastOrder rM_often iM_setMany iM_someOf iM_allOf iM_allWeight iM_enoughWeight iM_worthSum iM_firstRest iM_leastDrawn), (arI rM_r kM_r 287 fM_r), (arI rM_told kM_told 90 fM_told), (arI rM_heardRow kM_heardRow 400 f_523), (arI rM_cutRow kM_cutRow 800 f_524), (arI rQ kQ 90 fQ)]) hB rfl ht hFc rfl
                    clear hz1 hk1 hvm ht hB
                    rw [← hru9] at e_x_521_1
                    obtain ⟨x_525, rfl⟩ : ∃ z, z = r := ⟨_, rfl⟩
                    have hG := hG.trans (un5_eq e_x_521_1)
                    refine lv_istore (lv' := [(10, .int x_525), (9, .int x_499), (8, .int z_488), (7, .int x_487), (6, .int z_489), (5, .int x_365), (0, .ref oM), (1, .ref rQ), (2, .int p0), (3, .int p1), (4, .int p2)]) hx hb dX7_hear_227 hl (by decide) rfl (fun ls hl => ?_)
                    refine lv_iload hx hb dX7_hear_229 (lv_at hl 0 rfl) ?_
                    refine lv_iload hx hb dX7_hear_231 (lv_at hl 4 rfl) ?_
                    refine lv_icmp_ge (tgt := 241) hx hb dX7_hear_233 (by decide) (fun c_526 => ?_) (fun c_526 => ?_)
                    · skip
                      have hG := hG.trans (if_pos c_526)
                      have gc_526 := ti_le c_526 rfl rfl
                      refine lv_iload hx hb dX7_hear_241 (lv_at hl 4 rfl) ?_
                      refine lv_istore (lv' := [(6, .int z_489), (10, .int x_525), (9, .int x_499), (8, .int z_488), (7, .int x_487), (5, .int x_365), (0, .ref oM), (1, .ref rQ), (2, .int p0), (3, .int p1), (4, .int p2)]) hx hb dX7_hear_243 hl (by decide) rfl (fun ls hl => ?_)
                      refine lv_iload hx hb dX7_hear_245 (lv_at hl 0 rfl) ?_
                      refine lv_iload_n hx hb dX7_hear_247 rfl (lv_at hl 9 rfl) ?_
                      refine lv_icmp_gt (tgt := 264) hx hb dX7_hear_248 (by decide) (fun c_527 => ?_) (fun c_527 => ?_)
                      · skip
                        have hG := hG.trans (if_pos c_527)
                        have gc_527 := ti_lt c_527 rfl rfl
                        obtain ⟨x_528, ex_528⟩ : ∃ z : Int32, z = z_488 + Int32.ofInt 1 := ⟨_, rfl⟩
                        have hG := hG.trans (lt_eq ex_528)
                        have vx_528 : x_528.toInt = z_488.toInt + 1 := ti_add (y := 1) ex_528 rfl kc_1 (om_4e4fce7e hi0_n_494.1) (om_d6392c09 mn_p0.2 hi0_n_494.2)
                        refine lv_iinc (v := x_528) (lv' := [(8, .int x_528), (6, .int z_489), (10, .int x_525), (9, .int x_499), (7, .int x_487), (5, .int x_365), (0, .ref oM), (1, .ref rQ), (2, .int p0), (3, .int p1), (4, .int p2)]) hx hb dX7_hear_264 hl (k := 3) rfl ex_528.symm (by decide) rfl (fun ls hl => ?_)
                        refine lv_goto (tgt := 87) hx hb dX7_hear_267 (by decide) ?_
                        exact ih_n_494 x_528 z_489 x_521 x_522 f_523 f_524 _ _ _ b_x_521 b_x_522 ⟨(om_83b90de5 hi0_n_494.1 vx_528), (om_1ad1f819 cx_487 gc_495 vx_528)⟩ (by rw [show x_528.toNatClampNeg = z_488.toNatClampNeg + 1 from (by have q_1 := ti_cl (x := x_528) vx_528 (om_9548a8fd hi0_n_494.1); have q_2 := ti_cl (x := z_488) rfl hi0_n_494.1; omega)]; omega) (ms_lt hm_n_494 (om_dd4ae0bc vx_528) (om_6d498008 cx_487 gc_495)) hG hP hD hS (lv_sub hl [0, 4, 1, 5, 6, 7, 8, 9, 10] rfl)
                      · skip
                        have hG := hG.trans (if_neg c_527)
                        have gc_527 := ti_nlt c_527 rfl rfl
                        refine lv_aload_n hx hb dX7_hear_251 rfl (lv_at hl 6 rfl) ?_
                        refine lv_aload_n hx hb dX7_hear_252 rfl (lv_at hl 7 rfl) ?_
                        refine lv_iload_n hx hb dX7_hear_253 rfl (lv_at hl 8 rfl) ?_
                        refine lv_iload hx hb dX7_hear_254 (lv_at hl 3 rfl) ?_
                        refine lv_iconst (v := 1) hx hb dX7_hear_256 (by decide) ?_
                        refine lv_iadd hx hb dX7_hear_257 ?_
                        refine lv_topi (fun x_529 ex_529 => ?_)
                        have hG := hG.trans (lt_eq ex_529)
                        have vx_529 : x_529.toInt = z_488.toInt + 1 := ti_add ex_529 rfl kc_1 (om_4e4fce7e hi0_n_494.1) (om_d6392c09 mn_p0.2 hi0_n_494.2)
                        refine lv_iload hx hb dX7_hear_258 (lv_at hl 0 rfl) ?_
                        have hMs := ml_of hD [true, true, false, false, true, true] (wc := [(oc7 oM iM_thrown rM_tape iM_taped iM_size iM_at iM_end iM_token iM_whole iM_nameSize iM_fault iM_place iM_trouble rM_letters iM_failed iM_hasCourt rM_r rM_fresh rM_told rM_read rM_st rM_undone rM_kept iM_undos iM_images rM_fresher iM_fresherSize iM_scale iM_night rM_heardRow rM_cutRow x_521 x_522 iM_allBreaths rM_trial rM_words iM_fewestBreaths iM_orderMany iM_orderSum iM_leastOrder rM_often iM_setMany iM_someOf iM_allOf iM_allWeight iM_enoughWeight iM_worthSum iM_firstRest iM_leastDrawn), (arI rM_r kM_r 287 fM_r), (arI rM_cutRow kM_cutRow 800 f_524), (arI rQ kQ 90 fQ)]) rfl
                        have hFc := va_freeM hD hS hA _ hMs
                        refine va_calli (va_runV (As := [.ref rQ, .int p0, .int x_529, .int z_489]) (rest := []) ⟨hx, hb, hml, hown, hts⟩ (tX7_cutFrom l dC dI _ oM iM_thrown rM_tape iM_taped iM_size iM_at iM_end iM_token iM_whole iM_nameSize iM_fault iM_place iM_trouble rM_letters iM_failed iM_hasCourt rM_r fM_r kM_r rM_fresh rM_told rM_read rM_st rM_undone rM_kept iM_undos iM_images rM_fresher iM_fresherSize iM_scale iM_night rM_heardRow rM_cutRow f_524 kM_cutRow x_521 x_522 iM_allBreaths rM_trial rM_words iM_fewestBreaths iM_orderMany iM_orderSum iM_leastOrder rM_often iM_setMany iM_someOf iM_allOf iM_allWeight iM_enoughWeight iM_worthSum iM_firstRest iM_leastDrawn rQ fQ kQ p0 x_529 z_489 b_iM_taped b_iM_size b_iM_end b_iM_failed b_iM_hasCourt b_iM_undos b_iM_images b_iM_scale b_x_521 b_x_522 (by assumption) (by assumption) (by assumption) ⟨hk0.1, hk0.2⟩ ⟨(om_83b90de5 hi0_n_494.1 vx_529), (om_1ad1f819 cx_487 gc_495 vx_529)⟩ (by first | assumption | (have q0 := kc_0; have q1 := kc_1; first | exact ⟨by omega, by omega⟩ | omega) | decide | (intro h; exact absurd h (by decide)))) (cwV 4 hts (wd_V wd_783 wd_784 wd_785 wd_5 (wd_c wd_786)) rfl rfl rfl dv_yX7_cutFrom_4 ⟨(om_8728f9b4 n9), (om_05453fa9 n9)⟩) ⟨Pw.fb, recvX7 hK hP (q0 := 0) rfl, fun U hU hW => Pw.to (hP.ms _ hMs) (hD.ms _ hMs) (hK.ms [true, false, false, true, true] rfl) hE hS hFc hU hW⟩ rfl rfl hl.1 rfl (lv_room (Nat.le_of_ble_eq_true rfl)) dX7_hear_260 ⟨Nat.le_of_ble_eq_true rfl, Nat.le_of_ble_eq_true rfl⟩) hS (fun q _ h => hFc q h) hFc (fun r u t H locs ht hvm hw hB hz1 hk1 hS => ?_)
                        have hru9 := hw.2
                        have hw := hw.1
                        refine ex_2_3 hB (fun x_530 f_531 b_x_530 e_x_530_0 e_x_530_1 hB => ?_)
                        obtain ⟨hP, hD⟩ := Bw.goN (ws' := [(oc7 oM iM_thrown rM_tape iM_taped iM_size iM_at iM_end iM_token iM_whole iM_nameSize iM_fault iM_place iM_trouble rM_letters iM_failed iM_hasCourt rM_r rM_fresh rM_told rM_read rM_st rM_undone rM_kept iM_undos iM_images rM_fresher iM_fresherSize iM_scale iM_night rM_heardRow rM_cutRow x_521 x_530 iM_allBreaths rM_trial rM_words iM_fewestBreaths iM_orderMany iM_orderSum iM_leastOrder rM_often iM_setMany iM_someOf iM_allOf iM_allWeight iM_enoughWeight iM_worthSum iM_firstRest iM_leastDrawn), (arI rM_r kM_r 287 fM_r), (arI rM_told kM_told 90 fM_told), (arI rM_heardRow kM_heardRow 400 f_523), (arI rM_cutRow kM_cutRow 800 f_531), (arI rQ kQ 90 fQ)]) hB rfl ht hP hD _ hMs hk1 hFc rfl
                        clear hz1 hk1 hvm ht hB hMs
                        rw [← hru9] at e_x_530_1
                        obtain ⟨x_532, rfl⟩ : ∃ z, z = r := ⟨_, rfl⟩
                        have hG := hG.trans (un3_eq e_x_530_1)
                        exact wq_i hx hb hr (cI x_532) ⟨⟨trivial, trivial⟩, (cI_of x_532)⟩ (fun t ht hW => ⟨x_521, x_530, f_523, f_531, b_x_521, b_x_530, (by first | omega | decide | assumption), (cI_tup hG), Bw.to hP hD hK ht hW⟩) hS dX7_hear_263 hlocks
                    · skip
                      have hG := hG.trans (if_neg c_526)
                      have gc_526 := ti_nle c_526 rfl rfl
                      refine lv_iload hx hb dX7_hear_236 (lv_at hl 0 rfl) ?_
                      refine lv_goto (tgt := 243) hx hb dX7_hear_238 (by decide) ?_
                      refine lv_istore (lv' := [(6, .int x_525), (10, .int x_525), (9, .int x_499), (8, .int z_488), (7, .int x_487), (5, .int x_365), (0, .ref oM), (1, .ref rQ), (2, .int p0), (3, .int p1), (4, .int p2)]) hx hb dX7_hear_243 hl (by decide) rfl (fun ls hl => ?_)
                      refine lv_iload hx hb dX7_hear_245 (lv_at hl 0 rfl) ?_
                      refine lv_iload_n hx hb dX7_hear_247 rfl (lv_at hl 9 rfl) ?_
                      refine lv_icmp_gt (tgt := 264) hx hb dX7_hear_248 (by decide) (fun c_533 => ?_) (fun c_533 => ?_)
                      · skip
                        have hG := hG.trans (if_pos c_533)
                        have gc_533 := ti_lt c_533 rfl rfl
                        obtain ⟨x_534, ex_534⟩ : ∃ z : Int32, z = z_488 + Int32.ofInt 1 := ⟨_, rfl⟩
                        have hG := hG.trans (lt_eq ex_534)
                        have vx_534 : x_534.toInt = z_488.toInt + 1 := ti_add (y := 1) ex_534 rfl kc_1 (om_4e4fce7e hi0_n_494.1) (om_d6392c09 mn_p0.2 hi0_n_494.2)
                        refine lv_iinc (v := x_534) (lv' := [(8, .int x_534), (6, .int x_525), (10, .int x_525), (9, .int x_499), (7, .int x_487), (5, .int x_365), (0, .ref oM), (1, .ref rQ), (2, .int p0), (3, .int p1), (4, .int p2)]) hx hb dX7_hear_264 hl (k := 3) rfl ex_534.symm (by decide) rfl (fun ls hl => ?_)
                        refine lv_goto (tgt := 87) hx hb dX7_hear_267 (by decide) ?_
                        exact ih_n_494 x_534 x_525 x_521 x_522 f_523 f_524 _ _ _ b_x_521 b_x_522 ⟨(om_83b90de5 hi0_n_494.1 vx_534), (om_1ad1f819 cx_487 gc_495 vx_534)⟩ (by rw [show x_534.toNatClampNeg = z_488.toNatClampNeg + 1 from (by have q_1 := ti_cl (x := x_534) vx_534 (om_9548a8fd hi0_n_494.1); have q_2 := ti_cl (x := z_488) rfl hi0_n_494.1; omega)]; omega) (ms_lt hm_n_494 (om_dd4ae0bc vx_534) (om_6d498008 cx_487 gc_495)) hG hP hD hS (lv_sub hl [0, 4, 1, 5, 6, 7, 8, 9, 10] rfl)
                      · skip
                        have hG := hG.trans (if_neg c_533)
                        have gc_533 := ti_nlt c_533 rfl rfl
                        refine lv_aload_n hx hb dX7_hear_251 rfl (lv_at hl 6 rfl) ?_
                        refine lv_aload_n hx hb dX7_hear_252 rfl (lv_at hl 7 rfl) ?_
                        refine lv_iload_n hx hb dX7_hear_253 rfl (lv_at hl 8 rfl) ?_
                        refine lv_iload hx hb dX7_hear_254 (lv_at hl 3 rfl) ?_
                        refine lv_iconst (v := 1) hx hb dX7_hear_256 (by decide) ?_
                        refine lv_iadd hx hb dX7_hear_257 ?_
                        refine lv_topi (fun x_535 ex_535 => ?_)
                        have hG := hG.trans (lt_eq ex_535)
                        have vx_535 : x_535.toInt = z_488.toInt + 1 := ti_add ex_535 rfl kc_1 (om_4e4fce7e hi0_n_494.1) (om_d6392c09 mn_p0.2 hi0_n_494.2)
                        refine lv_iload hx hb dX7_hear_258 (lv_at hl 0 rfl) ?_
                        have hMs := ml_of hD [true, true, false, false, true, true] (wc := [(oc7 oM iM_thrown rM_tape iM_taped iM_size iM_at iM_end iM_token iM_whole iM_nameSize iM_fault iM_place iM_trouble rM_letters iM_failed iM_hasCourt rM_r rM_fresh rM_told rM_read rM_st rM_undone rM_kept iM_undos iM_images rM_fresher iM_fresherSize iM_scale iM_night rM_heardRow rM_cutRow x_521 x_522 iM_allBreaths rM_trial rM_words iM_fewestBreaths iM_orderMany iM_orderSum iM_leastOrder rM_often iM_setMany iM_someOf iM_allOf iM_allWeight iM_enoughWeight iM_worthSum iM_firstRest iM_leastDrawn), (arI rM_r kM_r 287 fM_r), (arI rM_cutRow kM_cutRow 800 f_524), (arI rQ kQ 90 fQ)]) rfl
                        have hFc := va_freeM hD hS hA _ hMs
                        refine va_calli (va_runV (As := [.ref rQ, .int p0, .int x_535, .int x_525]) (rest := []) ⟨hx, hb, hml, hown, hts⟩ (tX7_cutFrom l dC dI _ oM iM_thrown rM_tape iM_taped iM_size iM_at iM_end iM_token iM_whole iM_nameSize iM_fault iM_place iM_trouble rM_letters iM_failed iM_hasCourt rM_r fM_r kM_r rM_fresh rM_told rM_read rM_st rM_undone rM_kept iM_undos iM_images rM_fresher iM_fresherSize iM_scale iM_night rM_heardRow rM_cutRow f_524 kM_cutRow x_521 x_522 iM_allBreaths rM_trial rM_words iM_fewestBreaths iM_orderMany iM_orderSum iM_leastOrder rM_often iM_setMany iM_someOf iM_allOf iM_allWeight iM_enoughWeight iM_worthSum iM_firstRest iM_leastDrawn rQ fQ kQ p0 x_535 x_525 b_iM_taped b_iM_size b_iM_end b_iM_failed b_iM_hasCourt b_iM_undos b_iM_images b_iM_scale b_x_521 b_x_522 (by assumption) (by assumption) (by assumption) ⟨hk0.1, hk0.2⟩ ⟨(om_83b90de5 hi0_n_494.1 vx_535), (om_1ad1f819 cx_487 gc_495 vx_535)⟩ (by first | assumption | (have q0 := kc_0; have q1 := kc_1; first | exact ⟨by omega, by omega⟩ | omega) | decide | (intro h; exact absurd h (by decide)))) (cwV 4 hts (wd_V wd_783 wd_784 wd_785 wd_5 (wd_c wd_786)) rfl rfl rfl dv_yX7_cutFrom_4 ⟨(om_8728f9b4 n9), (om_05453fa9 n9)⟩) ⟨Pw.fb, recvX7 hK hP (q0 := 0) rfl, fun U hU hW => Pw.to (hP.ms _ hMs) (hD.ms _ hMs) (hK.ms [true, false, false, true, true] rfl) hE hS hFc hU hW⟩ rfl rfl hl.1 rfl (lv_room (Nat.le_of_ble_eq_true rfl)) dX7_hear_260 ⟨Nat.le_of_ble_eq_true rfl, Nat.le_of_ble_eq_true rfl⟩) hS (fun q _ h => hFc q h) hFc (fun r u t H locs ht hvm hw hB hz1 hk1 hS => ?_)
                        have hru9 := hw.2
                        have hw := hw.1
                        refine ex_2_3 hB (fun x_536 f_537 b_x_536 e_x_536_0 e_x_536_1 hB => ?_)
                        obtain ⟨hP, hD⟩ := Bw.goN (ws' := [(oc7 oM iM_thrown rM_tape iM_taped iM_size iM_at iM_end iM_token iM_whole iM_nameSize iM_fault iM_place iM_trouble rM_letters iM_failed iM_hasCourt rM_r rM_fresh rM_told rM_read rM_st rM_undone rM_kept iM_undos iM_images rM_fresher iM_fresherSize iM_scale iM_night rM_heardRow rM_cutRow x_521 x_536 iM_allBreaths rM_trial rM_words iM_fewestBreaths iM_orderMany iM_orderSum iM_leastOrder rM_often iM_setMany iM_someOf iM_allOf iM_allWeight iM_enoughWeight iM_worthSum iM_firstRest iM_leastDrawn), (arI rM_r kM_r 287 fM_r), (arI rM_told kM_told 90 fM_told), (arI rM_heardRow kM_heardRow 400 f_523), (arI rM_cutRow kM_cutRow 800 f_537), (arI rQ kQ 90 fQ)]) hB rfl ht hP hD _ hMs hk1 hFc rfl
                        clear hz1 hk1 hvm ht hB hMs
                        rw [← hru9] at e_x_536_1
                        obtain ⟨x_538, rfl⟩ : ∃ z, z = r := ⟨_, rfl⟩
                        have hG := hG.trans (un3_eq e_x_536_1)
                        exact wq_i hx hb hr (cI x_538) ⟨⟨trivial, trivial⟩, (cI_of x_538)⟩ (fun t ht hW => ⟨x_521, x_536, f_523, f_537, b_x_521, b_x_536, (by first | omega | decide | assumption), (cI_tup hG), Bw.to hP hD hK ht hW⟩) hS dX7_hear_263 hlocks
                · skip
                  have hG := hG.trans (if_pos c_501)
                  have gc_501 := ti_eq c_501 rfl kc_1
                  exact ((om_e3b39179 gc_367 gc_501)).elim
              · skip
                have hG := hG.trans (if_pos c_500)
                have gc_500 := ti_eq c_500 rfl kc_3
                exact ((om_51643139 gc_367 gc_500)).elim
        exact key_n_494 ((((fM_r (27 + p0.toNatClampNeg)).toInt - (0 : Int32).toInt).toNat) + 1) 0 100000000 iM_breaths iM_cutMany fM_heardRow fM_cutRow _ _ _ ⟨b_iM_breaths.1, b_iM_breaths.2⟩ ⟨b_iM_cutMany.1, b_iM_cutMany.2⟩ ⟨(om_b1de7dbe kc_0), (om_2dfe280d mn_p0.1 kc_0)⟩ (by first | (have q0 := kc_0; have q1 := kc_1; have q2 := kc_100000000; omega) | decide | assumption) (Nat.lt_add_one _) hG hP hD hS hl
    · skip
      have hG := hG.trans (if_pos c_366)
      have gc_366 := ti_eq c_366 rfl kc_0
      refine lv_aload_n hx hb dX7_hear_16 rfl (lv_at hl 1 rfl) ?_
      refine va_get (D := (dC, dI)) (ci := 7) (v := .ref rM_heardRow) (C := RX7) (T := TX7) (N := 48) hx hb hts inX7 hown hK hP 0 rfl rfl 28 (by decide) (hts _ wd_165) (fun _ h9 => h9) rfl dX7_hear_17 ?_
      refine lv_aload_n hx hb dX7_hear_20 rfl (lv_at hl 1 rfl) ?_
      refine va_get (D := (dC, dI)) (ci := 7) (v := .int iM_breaths) (C := RX7) (T := TX7) (N := 48) hx hb hts inX7 hown hK hP 0 rfl rfl 30 (by decide) (hts _ wd_773) (fun _ h9 => h9) rfl dX7_hear_21 ?_
      refine lv_iload_n hx hb dX7_hear_24 rfl (lv_at hl 3 rfl) ?_
      refine va_iast hx hb hK hP hD hS 3 2 rfl rfl (ti_in rfl b_iM_breaths.1 (om_a853c676 b_iM_breaths.2)) dX7_hear_25 (fun H locs hP hD hS => ?_)
      obtain ⟨f_540, ef_540⟩ : ∃ g : Nat → Int32, g = upd fM_heardRow iM_breaths.toNatClampNeg p0 := ⟨_, rfl⟩
      rw [← ef_540] at hP hD
      have hG := hG.trans (lt_eq ef_540)
      obtain ⟨hP, hD⟩ := wl2 (ws' := [(oc7 oM iM_thrown rM_tape iM_taped iM_size iM_at iM_end iM_token iM_whole iM_nameSize iM_fault iM_place iM_trouble rM_letters iM_failed iM_hasCourt rM_r rM_fresh rM_told rM_read rM_st rM_undone rM_kept iM_undos iM_images rM_fresher iM_fresherSize iM_scale iM_night rM_heardRow rM_cutRow iM_breaths iM_cutMany iM_allBreaths rM_trial rM_words iM_fewestBreaths iM_orderMany iM_orderSum iM_leastOrder rM_often iM_setMany iM_someOf iM_allOf iM_allWeight iM_enoughWeight iM_worthSum iM_firstRest iM_leastDrawn), (arI rM_r kM_r 287 fM_r), (arI rM_told kM_told 90 fM_told), (arI rM_heardRow kM_heardRow 400 f_540), (arI rM_cutRow kM_cutRow 800 fM_cutRow), (arI rQ kQ 90 fQ)]) hP hD rfl
      refine lv_aload_n hx hb dX7_hear_26 rfl (lv_at hl 1 rfl) ?_
      refine lv_dup hx hb dX7_hear_27 rfl ?_
      refine va_get (D := (dC, dI)) (ci := 7) (v := .int iM_breaths) (C := RX7) (T := TX7) (N := 48) hx hb hts inX7 hown hK hP 0 rfl rfl 30 (by decide) (hts _ wd_773) (fun _ h9 => h9) rfl dX7_hear_28 ?_
      refine lv_iconst (v := 1) hx hb dX7_hear_31 (by decide) ?_
      refine lv_iadd hx hb dX7_hear_32 ?_
      refine lv_topi (fun x_541 ex_541 => ?_)
      have hG := hG.trans (lt_eq ex_541)
      have vx_541 : x_541.toInt = iM_breaths.toInt + 1 := ti_add ex_541 rfl kc_1 (om_4e4fce7e b_iM_breaths.1) (om_cf082c4c b_iM_breaths.2)
      refine va_put (D := (dC, dI)) (ci := 7) (v := .int x_541) (ty := .int) (C := RX7) (T := TX7) (N := 48) hx hb hts inX7 tyX7 tyX7_ok nmX7 hown hK hP hD hS 0 rfl rfl 30 (by decide) (hts _ wd_773) (fun _ h9 => h9) rfl (by decide +kernel) rfl rfl (Nat.le_of_ble_eq_true rfl) dX7_hear_33 (fun H locs hP hD hS => ?_)
      obtain ⟨hP, hD⟩ := wl2 (ws' := [(oc7 oM iM_thrown rM_tape iM_taped iM_size iM_at iM_end iM_token iM_whole iM_nameSize iM_fault iM_place iM_trouble rM_letters iM_failed iM_hasCourt rM_r rM_fresh rM_told rM_read rM_st rM_undone rM_kept iM_undos iM_images rM_fresher iM_fresherSize iM_scale iM_night rM_heardRow rM_cutRow x_541 iM_cutMany iM_allBreaths rM_trial rM_words iM_fewestBreaths iM_orderMany iM_orderSum iM_leastOrder rM_often iM_setMany iM_someOf iM_allOf iM_allWeight iM_enoughWeight iM_worthSum iM_firstRest iM_leastDrawn), (arI rM_r kM_r 287 fM_r), (arI rM_told kM_told 90 fM_told), (arI rM_heardRow kM_heardRow 400 f_540), (arI rM_cutRow kM_cutRow 800 fM_cutRow), (arI rQ kQ 90 fQ)]) hP hD rfl
      refine lv_aload_n hx hb dX7_hear_36 rfl (lv_at hl 2 rfl) ?_
      refine lv_bipush (v := 72) hx hb dX7_hear_37 (by decide) ?_
      refine lv_iload_n hx hb dX7_hear_39 rfl (lv_at hl 3 rfl) ?_
      refine lv_iadd hx hb dX7_hear_40 ?_
      refine lv_topi (fun x_542 ex_542 => ?_)
      have hG := hG.trans (lt_eq ex_542)
      have vx_542 : x_542.toInt = p0.toInt + 72 := om_2d0716db (ti_add ex_542 kc_72 rfl (om_7e97233d hk0.1) (om_f5ef1b4a hk0.2 s_nodes.2))
      refine va_iald hx hb hK hP 5 4 rfl rfl (ti_in vx_542 (om_2ad8b1ab hk0.1) (om_311d1202 hk0.2 s_nodes.2)) dX7_hear_41 ?_
      refine lv_topi (fun x_543 ex_543 => ?_)
      have hG := hG.trans (lt_eq ex_543)
      have kx_543 : (fQ x_542.toNatClampNeg).toInt = x_543.toInt := by rw [ex_543]
      have cx_543 : (fQ (72 + p0.toNatClampNeg)).toInt = x_543.toInt := by rw [show 72 + p0.toNatClampNeg = x_542.toNatClampNeg from (om_cbf191f8 (ti_cl (x := p0) rfl hk0.1) (ti_cl (x := x_542) vx_542 (om_2ad8b1ab hk0.1)))]; exact kx_543
      refine lv_aload_n hx hb dX7_hear_42 rfl (lv_at hl 1 rfl) ?_
      refine va_get (D := (dC, dI)) (ci := 7) (v := .int iM_scale) (C := RX7) (T := TX7) (N := 48) hx hb hts inX7 hown hK hP 0 rfl rfl 26 (by decide) (hts _ wd_163) (fun _ h9 => h9) rfl dX7_hear_43 ?_
      refine lv_imul hx hb dX7_hear_46 ?_
      refine lv_topi (fun x_544 ex_544 => ?_)
      have hG := hG.trans (lt_eq ex_544)
      exact wq_i hx hb hr (cI x_544) ⟨⟨trivial, trivial⟩, (cI_of x_544)⟩ (fun t ht hW => ⟨x_541, iM_cutMany, f_540, fM_cutRow, (by have q := vx_541; exact ⟨by omega, by omega⟩), ⟨b_iM_cutMany.1, b_iM_cutMany.2⟩, (by first | omega | decide | assumption), (cI_tup hG), Bw.to hP hD hK ht hW⟩) hS dX7_hear_47 hlocks
theorem tX7_hear (l : Launch) (dC : Nat → ClassId) (dI : Nat → Nat → Nat) (sz : Nat) (oM : Nat) (iM_thrown : Int32) (rM_tape : Nat) (iM_taped : Int32) (iM_size : Int32) (iM_at : Int32) (iM_end : Int32) (iM_token : Int32) (iM_whole : Int32) (iM_nameSize : Int32) (iM_fault : Int32) (iM_place : Int32) (iM_trouble : Int32) (rM_letters : Nat) (iM_failed : Int32) (iM_hasCourt : Int32) (rM_r : Nat) (fM_r : Nat → Int32) (kM_r : ClassId) (rM_fresh : Nat) (rM_told : Nat) (fM_told : Nat → Int32) (kM_told : ClassId) (rM_read : Nat) (rM_st : Nat) (rM_undone : Nat) (rM_kept : Nat) (iM_undos : Int32) (iM_images : Int32) (rM_fresher : Nat) (iM_fresherSize : Int32) (iM_scale : Int32) (iM_night : Int32) (rM_heardRow : Nat) (fM_heardRow : Nat → Int32) (kM_heardRow : ClassId) (rM_cutRow : Nat) (fM_cutRow : Nat → Int32) (kM_cutRow : ClassId) (iM_breaths : Int32) (iM_cutMany : Int32) (iM_allBreaths : Int32) (rM_trial : Nat) (rM_words : Nat) (iM_fewestBreaths : Int32) (iM_orderMany : Int32) (iM_orderSum : Int32) (iM_leastOrder : Int32) (rM_often : Nat) (iM_setMany : Int32) (iM_someOf : Int32) (iM_allOf : Int32) (iM_allWeight : Int64) (iM_enoughWeight : Int64) (iM_worthSum : Int64) (iM_firstRest : Int32) (iM_leastDrawn : Int32) (rQ : Nat) (fQ : Nat → Int32) (kQ : ClassId) (p0 : Int32) (p1 : Int32) (p2 : Int32) (b_iM_taped : 0 ≤ iM_taped.toInt ∧ iM_taped.toInt ≤ 900) (b_iM_size : 0 ≤ iM_size.toInt ∧ iM_size.toInt ≤ 900) (b_iM_end : 0 ≤ iM_end.toInt ∧ iM_end.toInt ≤ 900) (b_iM_failed : 0 ≤ iM_failed.toInt ∧ iM_failed.toInt ≤ 1) (b_iM_hasCourt : 0 ≤ iM_hasCourt.toInt ∧ iM_hasCourt.toInt ≤ 1) (b_iM_undos : 0 ≤ iM_undos.toInt ∧ iM_undos.toInt ≤ 16) (b_iM_images : 0 ≤ iM_images.toInt ∧ iM_images.toInt ≤ 3) (b_iM_scale : 1 ≤ iM_scale.toInt ∧ iM_scale.toInt ≤ 1296) (b_iM_breaths : 0 ≤ iM_breaths.toInt ∧ iM_breaths.toInt ≤ 399) (b_iM_cutMany : 0 ≤ iM_cutMany.toInt ∧ iM_cutMany.toInt ≤ 399) (r_R : ROk fM_r) (r_C : iM_hasCourt.toInt ≤ 0 ∨ (1 ≤ (fM_r 1).toInt ∧ 0 ≤ (fM_r 6).toInt ∧ (fM_r 6).toInt < (fM_r 1).toInt)) (r_told : RowOk fM_r fM_told) (r_Q : RowOk fM_r fQ) (hk0 : 0 ≤ p0.toInt ∧ p0.toInt < (fM_r 1).toInt) (hbr : iM_breaths.toInt + iM_cutMany.toInt + (wgt fM_r p0.toNatClampNeg : Int) ≤ 399) : Met l yX7_hear (Cond.code yX7_hear cX7_hear 11 (some .int) :: wG) ({ frames := 19, cells := 0, slots := 0, locals := 550 }) (va_Pc [.ref oM, .ref rQ, .int p0, .int p1, .int p2] (Pw dC dI sz [(oc7 oM iM_thrown rM_tape iM_taped iM_size iM_at iM_end iM_token iM_whole iM_nameSize iM_fault iM_place iM_trouble rM_letters iM_failed iM_hasCourt rM_r rM_fresh rM_told rM_read rM_st rM_undone rM_kept iM_undos iM_images rM_fresher iM_fresherSize iM_scale iM_night rM_heardRow rM_cutRow iM_breaths iM_cutMany iM_allBreaths rM_trial rM_words iM_fewestBreaths iM_orderMany iM_orderSum iM_leastOrder rM_often iM_setMany iM_someOf iM_allOf iM_allWeight iM_enoughWeight iM_worthSum iM_firstRest iM_leastDrawn), (arI rM_r kM_r 287 fM_r), (arI rM_told kM_told 90 fM_told), (arI rM_heardRow kM_heardRow 400 fM_heardRow), (arI rM_cutRow kM_cutRow 800 fM_cutRow), (arI rQ kQ 90 fQ)] [(kM_r, .int), (kM_told, .int), (kM_heardRow, .int), (kM_cutRow, .int), (kQ, .int)])) (va_Qi (fun (r : Int32) (u : Nat) => (True ∧ True) ∧ r = Int32.ofNat u) (fun (u : Nat) (t : State) => ∃ (niM_breaths : Int32) (niM_cutMany : Int32) (nfM_heardRow : Nat → Int32) (nfM_cutRow : Nat → Int32), (0 ≤ niM_breaths.toInt ∧ niM_breaths.toInt ≤ 399) ∧ (0 ≤ niM_cutMany.toInt ∧ niM_cutMany.toInt ≤ 399) ∧ (niM_breaths.toInt + niM_cutMany.toInt ≤ iM_breaths.toInt + iM_cutMany.toInt + (wgt fM_r p0.toNatClampNeg : Int)) ∧ (PX7_hear 18 fM_r fM_told iM_scale fQ iM_breaths iM_cutMany fM_heardRow fM_cutRow p0 p1 p2 = (Int32.ofNat u, niM_breaths, niM_cutMany, nfM_heardRow, nfM_cutRow)) ∧ Bw dC dI (va_A [(oc7 oM iM_thrown rM_tape iM_taped iM_size iM_at iM_end iM_token iM_whole iM_nameSize iM_fault iM_place iM_trouble rM_letters iM_failed iM_hasCourt rM_r rM_fresh rM_told rM_read rM_st rM_undone rM_kept iM_undos iM_images rM_fresher iM_fresherSize iM_scale iM_night rM_heardRow rM_cutRow iM_breaths iM_cutMany iM_allBreaths rM_trial rM_words iM_fewestBreaths iM_orderMany iM_orderSum iM_leastOrder rM_often iM_setMany iM_someOf iM_allOf iM_allWeight iM_enoughWeight iM_worthSum iM_firstRest iM_leastDrawn), (arI rM_r kM_r 287 fM_r), (arI rM_told kM_told 90 fM_told), (arI rM_heardRow kM_heardRow 400 fM_heardRow), (arI rM_cutRow kM_cutRow 800 fM_cutRow), (arI rQ kQ 90 fQ)] sz) [(oc7 oM iM_thrown rM_tape iM_taped iM_size iM_at iM_end iM_token iM_whole iM_nameSize iM_fault iM_place iM_trouble rM_letters iM_failed iM_hasCourt rM_r rM_fresh rM_told rM_read rM_st rM_undone rM_kept iM_undos iM_images rM_fresher iM_fresherSize iM_scale iM_night rM_heardRow rM_cutRow niM_breaths niM_cutMany iM_allBreaths rM_trial rM_words iM_fewestBreaths iM_orderMany iM_orderSum iM_leastOrder rM_often iM_setMany iM_someOf iM_allOf iM_allWeight iM_enoughWeight iM_worthSum iM_firstRest iM_leastDrawn), (arI rM_r kM_r 287 fM_r), (arI rM_told kM_told 90 fM_told), (arI rM_heardRow kM_heardRow 400 nfM_heardRow), (arI rM_cutRow kM_cutRow 800 nfM_cutRow), (arI rQ kQ 90 fQ)] [(kM_r, .int), (kM_told, .int), (kM_heardRow, .int), (kM_cutRow, .int), (kQ, .int)] t) (va_A [(oc7 oM iM_thrown rM_tape iM_taped iM_size iM_at iM_end iM_token iM_whole iM_nameSize iM_fault iM_place iM_trouble rM_letters iM_failed iM_hasCourt rM_r rM_fresh rM_told rM_read rM_st rM_undone rM_kept iM_undos iM_images rM_fresher iM_fresherSize iM_scale iM_night rM_heardRow rM_cutRow iM_breaths iM_cutMany iM_allBreaths rM_trial rM_words iM_fewestBreaths iM_orderMany iM_orderSum iM_leastOrder rM_often iM_setMany iM_someOf iM_allOf iM_allWeight iM_enoughWeight iM_worthSum iM_firstRest iM_leastDrawn), (arI rM_r kM_r 287 fM_r), (arI rM_told kM_told 90 fM_told), (arI rM_heardRow kM_heardRow 400 fM_heardRow), (arI rM_cutRow kM_cutRow 800 fM_cutRow), (arI rQ kQ 90 fQ)] sz)) 0 0 (va_A [(oc7 oM iM_thrown rM_tape iM_taped iM_size iM_at iM_end iM_token iM_whole iM_nameSize iM_fault iM_place iM_trouble rM_letters iM_failed iM_hasCourt rM_r rM_fresh rM_told rM_read rM_st rM_undone rM_kept iM_undos iM_images rM_fresher iM_fresherSize iM_scale iM_night rM_heardRow rM_cutRow iM_breaths iM_cutMany iM_allBreaths rM_trial rM_words iM_fewestBreaths iM_orderMany iM_orderSum iM_leastOrder rM_often iM_setMany iM_someOf iM_allOf iM_allWeight iM_enoughWeight iM_worthSum iM_firstRest iM_leastDrawn), (arI rM_r kM_r 287 fM_r), (arI rM_told kM_told 90 fM_told), (arI rM_heardRow kM_heardRow 400 fM_heardRow), (arI rM_cutRow kM_cutRow 800 fM_cutRow), (arI rQ kQ 90 fQ)] sz) :=
  tX7_hear_n l dC dI 18 sz oM iM_thrown rM_tape iM_taped iM_size iM_at iM_end iM_token iM_whole iM_nameSize iM_fault iM_place iM_trouble rM_letters iM_failed iM_hasCourt rM_r fM_r kM_r rM_fresh rM_told fM_told kM_told rM_read rM_st rM_undone rM_kept iM_undos iM_images rM_fresher iM_fresherSize iM_scale iM_night rM_heardRow fM_heardRow kM_heardRow rM_cutRow fM_cutRow kM_cutRow iM_breaths iM_cutMany iM_allBreaths rM_trial rM_words iM_fewestBreaths iM_orderMany iM_orderSum iM_leastOrder rM_often iM_setMany iM_someOf iM_allOf iM_allWeight iM_enoughWeight iM_worthSum iM_firstRest iM_leastDrawn rQ fQ kQ p0 p1 p2 b_iM_taped b_iM_size b_iM_end b_iM_failed b_iM_hasCourt b_iM_undos b_iM_images b_iM_scale b_iM_breaths b_iM_cutMany r_R r_C r_told r_Q hk0 hbr (by have q := r_R.nodes; omega)
