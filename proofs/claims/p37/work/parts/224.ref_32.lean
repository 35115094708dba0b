set_option maxHeartbeats 4000000 in
set_option maxRecDepth 100000 in
theorem tX7_hear_n (l : Launch) (dC : Nat → ClassId) (dI : Nat → Nat → Nat) : ∀ (n9 : Nat) (sz : Nat) (oM : Nat) (iM_thrown : Int32) (rM_tape : Nat) (iM_taped : Int32) (iM_size : Int32) (iM_at : Int32) (iM_end : Int32) (iM_token : Int32) (iM_whole : Int32) (iM_nameSize : Int32) (iM_fault : Int32) (iM_place : Int32) (iM_trouble : Int32) (rM_letters : Nat) (iM_failed : Int32) (iM_hasCourt : Int32) (rM_r : Nat) (fM_r : Nat → Int32) (kM_r : ClassId) (rM_fresh : Nat) (rM_told : Nat) (fM_told : Nat → Int32) (kM_told : ClassId) (rM_read : Nat) (rM_st : Nat) (rM_undone : Nat) (rM_kept : Nat) (iM_undos : Int32) (iM_images : Int32) (rM_fresher : Nat) (iM_fresherSize : Int32) (iM_scale : Int32) (iM_night : Int32) (rM_heardRow : Nat) (fM_heardRow : Nat → Int32) (kM_heardRow : ClassId) (rM_cutRow : Nat) (fM_cutRow : Nat → Int32) (kM_cutRow : ClassId) (iM_breaths : Int32) (iM_cutMany : Int32) (iM_allBreaths : Int32) (rM_trial : Nat) (rM_words : Nat) (iM_fewestBreaths : Int32) (iM_orderMany : Int32) (iM_orderSum : Int32) (iM_leastOrder : Int32) (rM_often : Nat) (iM_setMany : Int32) (iM_someOf : Int32) (iM_allOf : Int32) (iM_allWeight : Int64) (iM_enoughWeight : Int64) (iM_worthSum : Int64) (iM_firstRest : Int32) (iM_leastDrawn : Int32) (rQ : Nat) (fQ : Nat → Int32) (kQ : ClassId) (p0 : Int32) (p1 : Int32) (p2 : Int32) (b_iM_taped : 0 ≤ iM_taped.toInt ∧ iM_taped.toInt ≤ 900) (b_iM_size : 0 ≤ iM_size.toInt ∧ iM_size.toInt ≤ 900) (b_iM_end : 0 ≤ iM_end.toInt ∧ iM_end.toInt ≤ 900) (b_iM_failed : 0 ≤ iM_failed.toInt ∧ iM_failed.toInt ≤ 1) (b_iM_hasCourt : 0 ≤ iM_hasCourt.toInt ∧ iM_hasCourt.toInt ≤ 1) (b_iM_undos : 0 ≤ iM_undos.toInt ∧ iM_undos.toInt ≤ 16) (b_iM_images : 0 ≤ iM_images.toInt ∧ iM_images.toInt ≤ 3) (b_iM_scale : 1 ≤ iM_scale.toInt ∧ iM_scale.toInt ≤ 1296) (b_iM_breaths : 0 ≤ iM_breaths.toInt ∧ iM_breaths.toInt ≤ 399) (b_iM_cutMany : 0 ≤ iM_cutMany.toInt ∧ iM_cutMany.toInt ≤ 399) (r_R : ROk fM_r) (r_C : iM_hasCourt.toInt ≤ 0 ∨ (1 ≤ (fM_r 1).toInt ∧ 0 ≤ (fM_r 6).toInt ∧ (fM_r 6).toInt < (fM_r 1).toInt)) (r_told : RowOk fM_r fM_told) (r_Q : RowOk fM_r fQ) (hk0 : 0 ≤ p0.toInt ∧ p0.toInt < (fM_r 1).toInt) (hbr : iM_breaths.toInt + iM_cutMany.toInt + (wgt fM_r p0.toNatClampNeg : Int) ≤ 399) (hn9 : p0.toInt < (n9 : Int)), Met l yX7_hear (Cond.code yX7_hear cX7_hear 11 (some .int) :: wG) ({ frames := 1 + n9, cells := 0, slots := 0, locals := 10 + 30 * n9 }) (va_Pc [.ref oM, .ref rQ, .int p0, .int p1, .int p2] (Pw dC dI sz [(oc7 oM iM_thrown rM_tape iM_taped iM_size iM_at iM_end iM_token iM_whole iM_nameSize iM_fault iM_place iM_trouble rM_letters iM_failed iM_hasCourt rM_r rM_fresh rM_told rM_read rM_st rM_undone rM_kept iM_undos iM_images rM_fresher iM_fresherSize iM_scale iM_night rM_heardRow rM_cutRow iM_breaths iM_cutMany iM_allBreaths rM_trial rM_words iM_fewestBreaths iM_orderMany iM_orderSum iM_leastOrder rM_often iM_setMany iM_someOf iM_allOf iM_allWeight iM_enoughWeight iM_worthSum iM_firstRest iM_leastDrawn), (arI rM_r kM_r 287 fM_r), (arI rM_told kM_told 90 fM_told), (arI rM_heardRow kM_heardRow 400 fM_heardRow), (arI rM_cutRow kM_cutRow 800 fM_cutRow), (arI rQ kQ 90 fQ)] [(kM_r, .int), (kM_told, .int), (kM_heardRow, .int), (kM_cutRow, .int), (kQ, .int)])) (va_Qi (fun (r : Int32) (_ : Nat) => True ∧ True) (fun (_ : Nat) (t : State) => ∃ (niM_breaths : Int32) (niM_cutMany : Int32) (nfM_heardRow : Nat → Int32) (nfM_cutRow : Nat → Int32), (0 ≤ niM_breaths.toInt ∧ niM_breaths.toInt ≤ 399) ∧ (0 ≤ niM_cutMany.toInt ∧ niM_cutMany.toInt ≤ 399) ∧ (niM_breaths.toInt + niM_cutMany.toInt ≤ iM_breaths.toInt + iM_cutMany.toInt + (wgt fM_r p0.toNatClampNeg : Int)) ∧ Bw dC dI (va_A [(oc7 oM iM_thrown rM_tape iM_taped iM_size iM_at iM_end iM_token iM_whole iM_nameSize iM_fault iM_place iM_trouble rM_letters iM_failed iM_hasCourt rM_r rM_fresh rM_told rM_read rM_st rM_undone rM_kept iM_undos iM_images rM_fresher iM_fresherSize iM_scale iM_night rM_heardRow rM_cutRow iM_breaths iM_cutMany iM_allBreaths rM_trial rM_words iM_fewestBreaths iM_orderMany iM_orderSum iM_leastOrder rM_often iM_setMany iM_someOf iM_allOf iM_allWeight iM_enoughWeight iM_worthSum iM_firstRest iM_leastDrawn), (arI rM_r kM_r 287 fM_r), (arI rM_told kM_told 90 fM_told), (arI rM_heardRow kM_heardRow 400 fM_heardRow), (arI rM_cutRow kM_cutRow 800 fM_cutRow), (arI rQ kQ 90 fQ)] sz) [(oc7 oM iM_thrown rM_tape iM_taped iM_size iM_at iM_end iM_token iM_whole iM_nameSize iM_fault iM_place iM_trouble rM_letters iM_failed iM_hasCourt rM_r rM_fresh rM_told rM_read rM_st rM_undone rM_kept iM_undos iM_images rM_fresher iM_fresherSize iM_scale iM_night rM_heardRow rM_cutRow niM_breaths niM_cutMany iM_allBreaths rM_trial rM_words iM_fewestBreaths iM_orderMany iM_orderSum iM_leastOrder rM_often iM_setMany iM_someOf iM_allOf iM_allWeight iM_enoughWeight iM_worthSum iM_firstRest iM_leastDrawn), (arI rM_r kM_r 287 fM_r), (arI rM_told kM_told 90 fM_told), (arI rM_heardRow kM_heardRow 400 nfM_heardRow), (arI rM_cutRow kM_cutRow 800 nfM_cutRow), (arI rQ kQ 90 fQ)] [(kM_r, .int), (kM_told, .int), (kM_heardRow, .int), (kM_cutRow, .int), (kQ, .int)] t) (va_A [(oc7 oM iM_thrown rM_tape iM_taped iM_size iM_at iM_end iM_token iM_whole iM_nameSize iM_fault iM_place iM_trouble rM_letters iM_failed iM_hasCourt rM_r rM_fresh rM_told rM_read rM_st rM_undone rM_kept iM_undos iM_images rM_fresher iM_fresherSize iM_scale iM_night rM_heardRow rM_cutRow iM_breaths iM_cutMany iM_allBreaths rM_trial rM_words iM_fewestBreaths iM_orderMany iM_orderSum iM_leastOrder rM_often iM_setMany iM_someOf iM_allOf iM_allWeight iM_enoughWeight iM_worthSum iM_firstRest iM_leastDrawn), (arI rM_r kM_r 287 fM_r), (arI rM_told kM_told 90 fM_told), (arI rM_heardRow kM_heardRow 400 fM_heardRow), (arI rM_cutRow kM_cutRow 800 fM_cutRow), (arI rQ kQ 90 fQ)] sz)) 0 0 (va_A [(oc7 oM iM_thrown rM_tape iM_taped iM_size iM_at iM_end iM_token iM_whole iM_nameSize iM_fault iM_place iM_trouble rM_letters iM_failed iM_hasCourt rM_r rM_fresh rM_told rM_read rM_st rM_undone rM_kept iM_undos iM_images rM_fresher iM_fresherSize iM_scale iM_night rM_heardRow rM_cutRow iM_breaths iM_cutMany iM_allBreaths rM_trial rM_words iM_fewestBreaths iM_orderMany iM_orderSum iM_leastOrder rM_often iM_setMany iM_someOf iM_allOf iM_allWeight iM_enoughWeight iM_worthSum iM_firstRest iM_leastDrawn), (arI rM_r kM_r 287 fM_r), (arI rM_told kM_told 90 fM_told), (arI rM_heardRow kM_heardRow 400 fM_heardRow), (arI rM_cutRow kM_cutRow 800 fM_cutRow), (arI rQ kQ 90 fQ)] sz) := by
  intro n9
  induction n9 with
  | zero => intro sz oM iM_thrown rM_tape iM_taped iM_size iM_at iM_end iM_token iM_whole iM_nameSize iM_fault iM_place iM_trouble rM_letters iM_failed iM_hasCourt rM_r fM_r kM_r rM_fresh rM_told fM_told kM_told rM_read rM_st rM_undone rM_kept iM_undos iM_images rM_fresher iM_fresherSize iM_scale iM_night rM_heardRow fM_heardRow kM_heardRow rM_cutRow fM_cutRow kM_cutRow iM_breaths iM_cutMany iM_allBreaths rM_trial rM_words iM_fewestBreaths iM_orderMany iM_orderSum iM_leastOrder rM_often iM_setMany iM_someOf iM_allOf iM_allWeight iM_enoughWeight iM_worthSum iM_firstRest iM_leastDrawn rQ fQ kQ p0 p1 p2 b_iM_taped b_iM_size b_iM_end b_iM_failed b_iM_hasCourt b_iM_undos b_iM_images b_iM_scale b_iM_breaths b_iM_cutMany r_R r_C r_told r_Q hk0 hbr hn9; exact absurd hn9 (by omega)
  | succ n9 ih9 =>
    intro sz oM iM_thrown rM_tape iM_taped iM_size iM_at iM_end iM_token iM_whole iM_nameSize iM_fault iM_place iM_trouble rM_letters iM_failed iM_hasCourt rM_r fM_r kM_r rM_fresh rM_told fM_told kM_told rM_read rM_st rM_undone rM_kept iM_undos iM_images rM_fresher iM_fresherSize iM_scale iM_night rM_heardRow fM_heardRow kM_heardRow rM_cutRow fM_cutRow kM_cutRow iM_breaths iM_cutMany iM_allBreaths rM_trial rM_words iM_fewestBreaths iM_orderMany iM_orderSum iM_leastOrder rM_often iM_setMany iM_someOf iM_allOf iM_allWeight iM_enoughWeight iM_worthSum iM_firstRest iM_leastDrawn rQ fQ kQ p0 p1 p2 b_iM_taped b_iM_size b_iM_end b_iM_failed b_iM_hasCourt b_iM_undos b_iM_images b_iM_scale b_iM_breaths b_iM_cutMany r_R r_C r_told r_Q hk0 hbr hn9
    refine Met.ofW (cc := cX7_hear) (maxL := 11) (ret := (some .int)) pnX7 rfl ?_
    intro p e s m args below meth c s₁ B hml hv
    obtain ⟨rfl, hsz, hP, hK, hD0, hE⟩ := hv
    have hx := B.exec
    have hb := B.bytes
    have hr := B.returns
    have hts : ∀ w ∈ wG, w.before ([.ref oM, .ref rQ, .int p0, .int p1, .int p2] : List Value).toArray s = true := fun w h => atoms_spec (ws := Cond.code yX7_hear cX7_hear 11 (some .int) :: wG) B.pre w (List.mem_cons_of_mem _ h)
    have hown : s.vm.findClass RX7 = some m.cls := own_of B.named rfl
    have hlocks := B.notSynchronized
    subst hsz
    have hD := hD0.self (sz := s.heap.size)
    generalize hAe : va_A [(oc7 oM iM_thrown rM_tape iM_taped iM_size iM_at iM_end iM_token iM_whole iM_nameSize iM_fault iM_place iM_trouble rM_letters iM_failed iM_hasCourt rM_r rM_fresh rM_told rM_read rM_st rM_undone rM_kept iM_undos iM_images rM_fresher iM_fresherSize iM_scale iM_night rM_heardRow rM_cutRow iM_breaths iM_cutMany iM_allBreaths rM_trial rM_words iM_fewestBreaths iM_orderMany iM_orderSum iM_leastOrder rM_often iM_setMany iM_someOf iM_allOf iM_allWeight iM_enoughWeight iM_worthSum iM_firstRest iM_leastDrawn), (arI rM_r kM_r 287 fM_r), (arI rM_told kM_told 90 fM_told), (arI rM_heardRow kM_heardRow 400 fM_heardRow), (arI rM_cutRow kM_cutRow 800 fM_cutRow), (arI rQ kQ 90 fQ)] s.heap.size = A at hD hE ⊢
    have hA : ∀ q : Nat, s.heap.size ≤ q → A q := fun q h => by rw [← hAe]; exact Or.inr h
    have hS : va_S A s.heap s.heap [] := va_S.rf
    have hl := lv_entry ([.ref oM, .ref rQ, .int p0, .int p1, .int p2]) (n := 11) (Nat.le_of_ble_eq_true rfl)
    rw [lg_entry_eq]
    generalize (lg_sl ([.ref oM, .ref rQ, .int p0, .int p1, .int p2]) ++ List.replicate (11 - (lg_sl ([.ref oM, .ref rQ, .int p0, .int p1, .int p2])).length) Slot.unset).toArray = ls at hl ⊢
    have hl : lv_has ls 11 [(0, .ref oM), (1, .ref rQ), (2, .int p0), (3, .int p1), (4, .int p2)] := hl
    have s_slips := r_R.slips
    have s_nodes := r_R.nodes
    have s_uns := r_R.uns
    have q_p0 := ti_cl (x := p0) rfl hk0.1
    have mn_p0 := r_R.many (27 + p0.toNatClampNeg) (Nat.le_add_right _ _) (om_6c263690 (ti_cl (x := p0) rfl hk0.1) hk0.2 s_nodes.2)
    have kn_p0 := r_R.kind (9 + p0.toNatClampNeg) (Nat.le_add_right _ _) (om_57ce868b (ti_cl (x := p0) rfl hk0.1) hk0.2 s_nodes.2)
    have in_p0 := r_R.inner p0.toNatClampNeg (om_05d4ad0a (ti_cl (x := p0) rfl hk0.1) hk0.2)
    have wi_p0 := wgt_in fM_r p0.toNatClampNeg
    refine lv_aload_n hx hb dX7_hear_0 rfl (lv_at hl 0 rfl) ?_
    refine va_get (D := (dC, dI)) (ci := 7) (v := .ref rM_r) (C := RX7) (T := TX7) (N := 48) hx hb hts inX7 hown hK hP 0 rfl rfl 15 (by decide) (hts _ wd_155) (fun _ h9 => h9) rfl dX7_hear_1 ?_
    refine lv_bipush (v := 9) hx hb dX7_hear_4 (by decide) ?_
    refine lv_iload_n hx hb dX7_hear_6 rfl (lv_at hl 2 rfl) ?_
    refine lv_iadd hx hb dX7_hear_7 ?_
    refine lv_topi (fun x_363 ex_363 => ?_)
    have vx_363 : x_363.toInt = p0.toInt + 9 := om_296ce4dd (ti_add ex_363 kc_9 rfl (om_090bbef4 hk0.1) (om_79f05b99 hk0.2 s_nodes.2))
    refine va_iald hx hb hK hP 1 0 rfl rfl (ti_in vx_363 (om_edbe2e4c hk0.1) (om_c4df49a1 hk0.2 s_nodes.2)) dX7_hear_8 ?_
    refine lv_topi (fun x_364 ex_364 => ?_)
    have kx_364 : (fM_r x_363.toNatClampNeg).toInt = x_364.toInt := by rw [ex_364]
    have cx_364 : (fM_r (9 + p0.toNatClampNeg)).toInt = x_364.toInt := by rw [show 9 + p0.toNatClampNeg = x_363.toNatClampNeg from (om_32f1c3e7 (ti_cl (x := p0) rfl hk0.1) (ti_cl (x := x_363) vx_363 (om_edbe2e4c hk0.1)))]; exact kx_364
    have sx_364 := r_R.kind x_363.toNatClampNeg (om_462cc4af (ti_cl (x := x_363) vx_363 (om_edbe2e4c hk0.1)) hk0.1) (om_7afb9f20 (ti_cl (x := x_363) vx_363 (om_edbe2e4c hk0.1)) hk0.2 s_nodes.2)
    refine lv_istore (lv' := [(5, .int x_364), (0, .ref oM), (1, .ref rQ), (2, .int p0), (3, .int p1), (4, .int p2)]) hx hb dX7_hear_9 hl (by decide) rfl (fun ls hl => ?_)
    refine lv_iload hx hb dX7_hear_11 (lv_at hl 0 rfl) ?_
    refine lv_if_ne (tgt := 48) hx hb dX7_hear_13 (by decide) (fun c_365 => ?_) (fun c_365 => ?_)
    · skip
      have gc_365 := ti_ne c_365 rfl kc_0
      refine lv_iload hx hb dX7_hear_48 (lv_at hl 0 rfl) ?_
      refine lv_iconst (v := 2) hx hb dX7_hear_50 (by decide) ?_
      refine lv_icmp_ne (tgt := 59) hx hb dX7_hear_51 (by decide) (fun c_366 => ?_) (fun c_366 => ?_)
      · skip
        have gc_366 := ti_ne c_366 rfl kc_2
        refine lv_iload hx hb dX7_hear_59 (lv_at hl 0 rfl) ?_
        refine lv_iconst (v := 1) hx hb dX7_hear_61 (by decide) ?_
        refine lv_icmp_ne (tgt := 70) hx hb dX7_hear_62 (by decide) (fun c_367 => ?_) (fun c_367 => ?_)
        · skip
          have gc_367 := ti_ne c_367 rfl kc_1
          refine lv_iconst (v := 0) hx hb dX7_hear_70 (by decide) ?_
          refine lv_istore (lv' := [(6, .int 0), (5, .int x_364), (0, .ref oM), (1, .ref rQ), (2, .int p0), (3, .int p1), (4, .int p2)]) hx hb dX7_hear_71 hl (by decide) rfl (fun ls hl => ?_)
          refine lv_aload_n hx hb dX7_hear_73 rfl (lv_at hl 2 rfl) ?_
          refine va_get (D := (dC, dI)) (ci := 7) (v := .ref rM_r) (C := RX7) (T := TX7) (N := 48) hx hb hts inX7 hown hK hP 0 rfl rfl 15 (by decide) (hts _ wd_155) (fun _ h9 => h9) rfl dX7_hear_74 ?_
          refine lv_bipush (v := 27) hx hb dX7_hear_77 (by decide) ?_
          refine lv_iload_n hx hb dX7_hear_79 rfl (lv_at hl 4 rfl) ?_
          refine lv_iadd hx hb dX7_hear_80 ?_
          refine lv_topi (fun x_368 ex_368 => ?_)
          have vx_368 : x_368.toInt = p0.toInt + 27 := om_6c48219a (ti_add ex_368 kc_27 rfl (om_edd3f7cf hk0.1) (om_cf6669ce hk0.2 s_nodes.2))
          refine va_iald hx hb hK hP 1 0 rfl rfl (ti_in vx_368 (om_b4b48b7f hk0.1) (om_420abfc6 hk0.2 s_nodes.2)) dX7_hear_81 ?_
          refine lv_topi (fun x_369 ex_369 => ?_)
          have kx_369 : (fM_r x_368.toNatClampNeg).toInt = x_369.toInt := by rw [ex_369]
          have cx_369 : (fM_r (27 + p0.toNatClampNeg)).toInt = x_369.toInt := by rw [show 27 + p0.toNatClampNeg = x_368.toNatClampNeg from (om_779a3124 (ti_cl (x := p0) rfl hk0.1) (ti_cl (x := x_368) vx_368 (om_b4b48b7f hk0.1)))]; exact kx_369
          have sx_369 := r_R.many x_368.toNatClampNeg (om_ab5399c3 (ti_cl (x := x_368) vx_368 (om_b4b48b7f hk0.1)) hk0.1) (om_3b68d876 (ti_cl (x := x_368) vx_368 (om_b4b48b7f hk0.1)) hk0.2 s_nodes.2)
          refine lv_istore (lv' := [(7, .int x_369), (6, .int 0), (5, .int x_364), (0, .ref oM), (1, .ref rQ), (2, .int p0), (3, .int p1), (4, .int p2)]) hx hb dX7_hear_82 hl (by decide) rfl (fun ls hl => ?_)
          refine lv_iconst (v := 0) hx hb dX7_hear_84 (by decide) ?_
          refine lv_istore (lv' := [(8, .int 0), (7, .int x_369), (6, .int 0), (5, .int x_364), (0, .ref oM), (1, .ref rQ), (2, .int p0), (3, .int p1), (4, .int p2)]) hx hb dX7_hear_85 hl (by decide) rfl (fun ls hl => ?_)
          have hl := lv_sub hl (l' := [(8, .int 0), (7, .int x_369), (6, .int 0), (5, .int x_364), (0, .ref oM), (1, .ref rQ), (2, .int p0), (3, .int p1), (4, .int p2)]) [0, 1, 2, 3, 4, 5, 6, 7, 8] rfl
          have key_n_376 : ∀ (n_376 : Nat) (z_370 : Int32) (z_371 : Int32) (z_372 : Int32) (z_373 : Int32) (f_374 : Nat → Int32) (f_375 : Nat → Int32) (H : Heap) (locs : List Loc) (ls : Array Slot), (0 ≤ z_372.toInt ∧ z_372.toInt ≤ 399) → (0 ≤ z_373.toInt ∧ z_373.toInt ≤ 399) → (0 ≤ z_370.toInt ∧ z_370.toInt ≤ (fM_r (27 + p0.toNatClampNeg)).toInt) → (z_372.toInt + z_373.toInt ≤ iM_breaths.toInt + iM_cutMany.toInt + (rsum fM_r fQ p0.toNatClampNeg (z_370.toNatClampNeg) : Int)) → ((fM_r (27 + p0.toNatClampNeg)).toInt - z_370.toInt).toNat < n_376 → va_P (dC, dI) vwCl [(oc7 oM iM_thrown rM_tape iM_taped iM_size iM_at iM_end iM_token iM_whole iM_nameSize iM_fault iM_place iM_trouble rM_letters iM_failed iM_hasCourt rM_r rM_fresh rM_told rM_read rM_st rM_undone rM_kept iM_undos iM_images rM_fresher iM_fresherSize iM_scale iM_night rM_heardRow rM_cutRow z_372 z_373 iM_allBreaths rM_trial rM_words iM_fewestBreaths iM_orderMany iM_orderSum iM_leastOrder rM_often iM_setMany iM_someOf iM_allOf iM_allWeight iM_enoughWeight iM_worthSum iM_firstRest iM_leastDrawn), (arI rM_r kM_r 287 fM_r), (arI rM_told kM_told 90 fM_told), (arI rM_heardRow kM_heardRow 400 f_374), (arI rM_cutRow kM_cutRow 800 f_375), (arI rQ kQ 90 fQ)] H → va_D A [(oc7 oM iM_thrown rM_tape iM_taped iM_size iM_at iM_end iM_token iM_whole iM_nameSize iM_fault iM_place iM_trouble rM_letters iM_failed iM_hasCourt rM_r rM_fresh rM_told rM_read rM_st rM_undone rM_kept iM_undos iM_images rM_fresher iM_fresherSize iM_scale iM_night rM_heardRow rM_cutRow z_372 z_373 iM_allBreaths rM_trial rM_words iM_fewestBreaths iM_orderMany iM_orderSum iM_leastOrder rM_often iM_setMany iM_someOf iM_allOf iM_allWeight iM_enoughWeight iM_worthSum iM_firstRest iM_leastDrawn), (arI rM_r kM_r 287 fM_r), (arI rM_told kM_told 90 fM_told), (arI rM_heardRow kM_heardRow 400 f_374), (arI rM_cutRow kM_cutRow 800 f_375), (arI rQ kQ 90 fQ)] → va_S A s.heap H locs → lv_has ls 11 [(8, .int z_370), (7, .int x_369), (6, .int z_371), (5, .int x_364), (0, .ref oM), (1, .ref rQ), (2, .int p0), (3, .int p1), (4, .int p2)] → W p l e (headSpec (Cond.code yX7_hear cX7_hear 11 (some .int) :: wG) ({ frames := 1 + (n9 + 1), cells := 0, slots := 0, locals := 10 + 30 * (n9 + 1) })).room s m ([.ref oM, .ref rQ, .int p0, .int p1, .int p2] : List Value).toArray below meth c H locs 0 0 (MQ below (va_Qi (fun (r : Int32) (_ : Nat) => True ∧ True) (fun (_ : Nat) (t : State) => ∃ (niM_breaths : Int32) (niM_cutMany : Int32) (nfM_heardRow : Nat → Int32) (nfM_cutRow : Nat → Int32), (0 ≤ niM_breaths.toInt ∧ niM_breaths.toInt ≤ 399) ∧ (0 ≤ niM_cutMany.toInt ∧ niM_cutMany.toInt ≤ 399) ∧ (niM_breaths.toInt + niM_cutMany.toInt ≤ iM_breaths.toInt + iM_cutMany.toInt + (wgt fM_r p0.toNatClampNeg : Int)) ∧ Bw dC dI A [(oc7 oM iM_thrown rM_tape iM_taped iM_size iM_at iM_end iM_token iM_whole iM_nameSize iM_fault iM_place iM_trouble rM_letters iM_failed iM_hasCourt rM_r rM_fresh rM_told rM_read rM_st rM_undone rM_kept iM_undos iM_images rM_fresher iM_fresherSize iM_scale iM_night rM_heardRow rM_cutRow niM_breaths niM_cutMany iM_allBreaths rM_trial rM_words iM_fewestBreaths iM_orderMany iM_orderSum iM_leastOrder rM_often iM_setMany iM_someOf iM_allOf iM_allWeight iM_enoughWeight iM_worthSum iM_firstRest iM_leastDrawn), (arI rM_r kM_r 287 fM_r), (arI rM_told kM_told 90 fM_told), (arI rM_heardRow kM_heardRow 400 nfM_heardRow), (arI rM_cutRow kM_cutRow 800 nfM_cutRow), (arI rQ kQ 90 fQ)] [(kM_r, .int), (kM_told, .int), (kM_heardRow, .int), (kM_cutRow, .int), (kQ, .int)] t) A) ([.ref oM, .ref rQ, .int p0, .int p1, .int p2] : List Value).toArray s 0 0 A) (F0 m 87 ls []) := by
            intro n_376
            induction n_376 with
            | zero => intro z_370 z_371 z_372 z_373 f_374 f_375 H locs ls b_z_372 b_z_373 hi0_n_376 hi1_n_376 hm; exact absurd hm (Nat.not_lt_zero _)
            | succ n_376 ih_n_376 =>
              intro z_370 z_371 z_372 z_373 f_374 f_375 H locs ls b_z_372 b_z_373 hi0_n_376 hi1_n_376 hm_n_376 hP hD hS hl
              have gp_z_370 := rsum_gap r_R r_Q (k := p0.toNatClampNeg) (i := z_370.toNatClampNeg) (m := (fM_r (27 + p0.toNatClampNeg)).toInt.toNat) (by have q_1 := ti_cl (x := p0) rfl hk0.1; omega) (by omega) (by omega) (by have q_2 := ti_cl (x := z_370) rfl (by omega); omega)
              have q_z_370 := ti_cl (x := z_370) rfl (by omega)
              refine lv_iload hx hb dX7_hear_87 (lv_at hl 0 rfl) ?_
              refine lv_iload hx hb dX7_hear_89 (lv_at hl 1 rfl) ?_
              refine lv_icmp_ge (tgt := 270) hx hb dX7_hear_91 (by decide) (fun c_377 => ?_) (fun c_377 => ?_)
              · skip
                have gc_377 := ti_le c_377 rfl rfl
                refine lv_iload hx hb dX7_hear_270 (lv_at hl 3 rfl) ?_
                refine lv_iconst (v := 3) hx hb dX7_hear_272 (by decide) ?_
                refine lv_icmp_ne (tgt := 287) hx hb dX7_hear_273 (by decide) (fun c_378 => ?_) (fun c_378 => ?_)
                · skip
                  have gc_378 := ti_ne c_378 rfl kc_3
                  refine lv_iload hx hb dX7_hear_287 (lv_at hl 2 rfl) ?_
                  exact wq_i hx hb hr 0 ⟨trivial, trivial⟩ (fun t ht hW => ⟨z_372, z_373, f_374, f_375, b_z_372, b_z_373, (by first | omega | decide | assumption), Bw.to hP hD hK ht hW⟩) hS dX7_hear_289 hlocks
                · skip
                  have gc_378 := ti_eq c_378 rfl kc_3
                  refine lv_iload hx hb dX7_hear_276 (lv_at hl 2 rfl) ?_
                  refine lv_aload_n hx hb dX7_hear_278 rfl (lv_at hl 4 rfl) ?_
                  refine lv_iload_n hx hb dX7_hear_279 rfl (lv_at hl 6 rfl) ?_
                  have hMs := ml_of hD [true, true, false, false, false, false] (wc := [(oc7 oM iM_thrown rM_tape iM_taped iM_size iM_at iM_end iM_token iM_whole iM_nameSize iM_fault iM_place iM_trouble rM_letters iM_failed iM_hasCourt rM_r rM_fresh rM_told rM_read rM_st rM_undone rM_kept iM_undos iM_images rM_fresher iM_fresherSize iM_scale iM_night rM_heardRow rM_cutRow z_372 z_373 iM_allBreaths rM_trial rM_words iM_fewestBreaths iM_orderMany iM_orderSum iM_leastOrder rM_often iM_setMany iM_someOf iM_allOf iM_allWeight iM_enoughWeight iM_worthSum iM_firstRest iM_leastDrawn), (arI rM_r kM_r 287 fM_r)]) rfl
                  have hFc := va_freeM hD hS hA _ hMs
                  refine va_calli (va_runV (As := [.int p0]) (rest := [.int z_371]) ⟨hx, hb, hml, hown, hts⟩ (tX7_weightsOf l dC dI _ oM iM_thrown rM_tape iM_taped iM_size iM_at iM_end iM_token iM_whole iM_nameSize iM_fault iM_place iM_trouble rM_letters iM_failed iM_hasCourt rM_r fM_r kM_r rM_fresh rM_told rM_read rM_st rM_undone rM_kept iM_undos iM_images rM_fresher iM_fresherSize iM_scale iM_night rM_heardRow rM_cutRow z_372 z_373 iM_allBreaths rM_trial rM_words iM_fewestBreaths iM_orderMany iM_orderSum iM_leastOrder rM_often iM_setMany iM_someOf iM_allOf iM_allWeight iM_enoughWeight iM_worthSum iM_firstRest iM_leastDrawn p0 b_iM_taped b_iM_size b_iM_end b_iM_failed b_iM_hasCourt b_iM_undos b_iM_images b_iM_scale b_z_372 b_z_373 (by assumption) (by assumption) ⟨hk0.1, hk0.2⟩ (om_9acf6818 kn_p0.2 cx_364 gc_378)) (cwV 1 hts (wd_V wd_506 wd_507 wd_508 wd_5 (wd_c wd_509)) rfl rfl rfl dv_yX7_weightsOf_1 ⟨(om_8728f9b4 n9), (om_309dbbdf n9)⟩) ⟨Pw.fb, recvX7 hK hP (q0 := 0) rfl, fun U hU hW => Pw.to (hP.ms _ hMs) (hD.ms _ hMs) (hK.ms [true, false, false, false, false] rfl) hE hS hFc hU hW⟩ rfl rfl hl.1 rfl (lv_room (Nat.le_of_ble_eq_true rfl)) dX7_hear_280 ⟨Nat.le_of_ble_eq_true rfl, Nat.le_of_ble_eq_true rfl⟩) hS (fun q _ h => hFc q h) hFc (fun r u t H locs ht hvm hw hB hz1 hk1 hS => ?_)
                  have hru9 := hw.2
                  have hw := hw.1
                  obtain ⟨hP, hD⟩ := Bw.goN (ws' := [(oc7 oM iM_thrown rM_tape iM_taped iM_size iM_at iM_end iM_token iM_whole iM_nameSize iM_fault iM_place iM_trouble rM_letters iM_failed iM_hasCourt rM_r rM_fresh rM_told rM_read rM_st rM_undone rM_kept iM_undos iM_images rM_fresher iM_fresherSize iM_scale iM_night rM_heardRow rM_cutRow z_372 z_373 iM_allBreaths rM_trial rM_words iM_fewestBreaths iM_orderMany iM_orderSum iM_leastOrder rM_often iM_setMany iM_someOf iM_allOf iM_allWeight iM_enoughWeight iM_worthSum iM_firstRest iM_leastDrawn), (arI rM_r kM_r 287 fM_r), (arI rM_told kM_told 90 fM_told), (arI rM_heardRow kM_heardRow 400 f_374), (arI rM_cutRow kM_cutRow 800 f_375), (arI rQ kQ 90 fQ)]) hB rfl ht hP hD _ hMs hk1 hFc rfl
                  clear hz1 hk1 hvm ht hB hMs
                  obtain ⟨x_379, rfl⟩ : ∃ z, z = r := ⟨_, rfl⟩
                  have ux_379 := hw.2
                  refine lv_idiv hx hb dX7_hear_283 (ti_n0 rfl (by omega)) ?_
                  refine lv_topi (fun x_380 ex_380 => ?_)
                  refine lv_goto (tgt := 289) hx hb dX7_hear_284 (by decide) ?_
                  exact wq_i hx hb hr 0 ⟨trivial, trivial⟩ (fun t ht hW => ⟨z_372, z_373, f_374, f_375, b_z_372, b_z_373, (by first | omega | decide | assumption), Bw.to hP hD hK ht hW⟩) hS dX7_hear_289 hlocks
              · skip
                have gc_377 := ti_nle c_377 rfl rfl
                refine lv_aload_n hx hb dX7_hear_94 rfl (lv_at hl 5 rfl) ?_
                refine lv_iconst (v := 4) hx hb dX7_hear_95 (by decide) ?_
                refine lv_iload_n hx hb dX7_hear_96 rfl (lv_at hl 6 rfl) ?_
                refine lv_imul hx hb dX7_hear_97 ?_
                refine lv_topi (fun x_381 ex_381 => ?_)
                have vx_381 : x_381.toInt = 4 * p0.toInt := ti_mul ex_381 kc_4 rfl (om_56b74365 hk0.1) (om_eac0354e hk0.2 s_nodes.2)
                refine lv_iload hx hb dX7_hear_98 (lv_at hl 0 rfl) ?_
                refine lv_iadd hx hb dX7_hear_100 ?_
                refine lv_topi (fun x_382 ex_382 => ?_)
                have vx_382 : x_382.toInt = 4 * p0.toInt + z_370.toInt := om_5d0caf0f (ti_add ex_382 vx_381 rfl (om_056a216f hk0.1 hi0_n_376.1) (om_da12a7f8 hk0.2 s_nodes.2 mn_p0.2 hi0_n_376.2))
                refine va_iald hx hb hK hP 5 4 rfl rfl (ti_in vx_382 (om_fc2812d4 hk0.1 hi0_n_376.1) (om_01db022b hk0.2 s_nodes.2 mn_p0.2 hi0_n_376.2)) dX7_hear_101 ?_
                refine lv_topi (fun x_383 ex_383 => ?_)
                have kx_383 : (fQ x_382.toNatClampNeg).toInt = x_383.toInt := by rw [ex_383]
                have cx_383 : (fQ (4 * p0.toNatClampNeg + z_370.toNatClampNeg)).toInt = x_383.toInt := by rw [show 4 * p0.toNatClampNeg + z_370.toNatClampNeg = x_382.toNatClampNeg from (om_4de36627 (ti_cl (x := p0) rfl hk0.1) (ti_cl (x := z_370) rfl hi0_n_376.1) (ti_cl (x := x_382) vx_382 (om_fc2812d4 hk0.1 hi0_n_376.1)))]; exact kx_383
                have wx_383 : 0 ≤ x_383.toInt ∧ x_383.toInt < p0.toInt := row_lt r_Q (i := z_370.toNatClampNeg) (ti_cl (x := p0) rfl hk0.1) (ti_cl (x := z_370) rfl hi0_n_376.1) hk0.2 (om_644b432c cx_369 gc_377) (om_24300f0a (ti_cl (x := p0) rfl hk0.1) (ti_cl (x := z_370) rfl hi0_n_376.1)) cx_383
                have pr_x_383 := rsum_at r_R r_Q (k := p0.toNatClampNeg) (i := z_370.toNatClampNeg) (z := x_383) (by have q_1 := ti_cl (x := p0) rfl hk0.1; omega) (by omega) (by have q_1 := ti_cl (x := z_370) rfl hi0_n_376.1; omega) (by have q_3 := cx_383; rw [show 4 * p0.toNatClampNeg + z_370.toNatClampNeg = 4 * p0.toNatClampNeg + z_370.toNatClampNeg from by omega]; omega)
                have q_z_370 := ti_cl (x := z_370) rfl hi0_n_376.1
                refine lv_istore (lv' := [(9, .int x_383), (8, .int z_370), (7, .int x_369), (6, .int z_371), (5, .int x_364), (0, .ref oM), (1, .ref rQ), (2, .int p0), (3, .int p1), (4, .int p2)]) hx hb dX7_hear_102 hl (by decide) rfl (fun ls hl => ?_)
                refine lv_iload hx hb dX7_hear_104 (lv_at hl 4 rfl) ?_
                refine lv_iconst (v := 3) hx hb dX7_hear_106 (by decide) ?_
                refine lv_icmp_ne (tgt := 137) hx hb dX7_hear_107 (by decide) (fun c_384 => ?_) (fun c_384 => ?_)
                · skip
                  have gc_384 := ti_ne c_384 rfl kc_3
                  refine lv_iload hx hb dX7_hear_137 (lv_at hl 4 rfl) ?_
                  refine lv_iconst (v := 1) hx hb dX7_hear_139 (by decide) ?_
                  refine lv_icmp_ne (tgt := 205) hx hb dX7_hear_140 (by decide) (fun c_385 => ?_) (fun c_385 => ?_)
                  · skip
                    have gc_385 := ti_ne c_385 rfl kc_1
                    refine lv_aload_n hx hb dX7_hear_205 rfl (lv_at hl 5 rfl) ?_
                    refine lv_aload_n hx hb dX7_hear_206 rfl (lv_at hl 6 rfl) ?_
                    refine lv_iload hx hb dX7_hear_207 (lv_at hl 0 rfl) ?_
                    refine lv_iload_n hx hb dX7_hear_209 rfl (lv_at hl 8 rfl) ?_
                    refine lv_iload hx hb dX7_hear_210 (lv_at hl 3 rfl) ?_
                    refine lv_iload hx hb dX7_hear_212 (lv_at hl 9 rfl) ?_
                    refine lv_icmp_ge (tgt := 222) hx hb dX7_hear_214 (by decide) (fun c_386 => ?_) (fun c_386 => ?_)
                    · skip
                      have gc_386 := ti_le c_386 rfl rfl
                      refine lv_iload hx hb dX7_hear_222 (lv_at hl 9 rfl) ?_
                      have hFc := va_freeI hD hS hA
                      refine va_calli (va_runV (As := [.ref rQ, .int x_383, .int p1, .int p2]) (rest := []) ⟨hx, hb, hml, hown, hts⟩ (ih9 _ oM iM_thrown rM_tape iM_taped iM_size iM_at iM_end iM_token iM_whole iM_nameSize iM_fault iM_place iM_trouble rM_letters iM_failed iM_hasCourt rM_r fM_r kM_r rM_fresh rM_told fM_told kM_told rM_read rM_st rM_undone rM_kept iM_undos iM_images rM_fresher iM_fresherSize iM_scale iM_night rM_heardRow f_374 kM_heardRow rM_cutRow f_375 kM_cutRow z_372 z_373 iM_allBreaths rM_trial rM_words iM_fewestBreaths iM_orderMany iM_orderSum iM_leastOrder rM_often iM_setMany iM_someOf iM_allOf iM_allWeight iM_enoughWeight iM_worthSum iM_firstRest iM_leastDrawn rQ fQ kQ x_383 p1 p2 b_iM_taped b_iM_size b_iM_end b_iM_failed b_iM_hasCourt b_iM_undos b_iM_images b_iM_scale b_z_372 b_z_373 (by assumption) (by assumption) (by assumption) (by assumption) ⟨wx_383.1, (om_90a71968 hk0.2 wx_383.2)⟩ (by first | assumption | (have q0 := kc_0; have q1 := kc_1; first | exact ⟨by omega, by omega⟩ | omega) | decide | (intro h; exact absurd h (by decide))) (by first | assumption | (have q0 := kc_0; have q1 := kc_1; first | exact ⟨by omega, by omega⟩ | omega) | decide | (intro h; exact absurd h (by decide)))) (cwV 4 hts (wd_V wd_779 wd_780 wd_781 wd_5 (wd_c wd_782)) rfl rfl rfl (by decide +kernel) ⟨(om_70783806 n9), (om_db56e044 n9)⟩) ⟨Pw.fb, recvX7 hK hP (q0 := 0) rfl, fun U hU hW => Pw.to hP hD hK hE hS hFc hU hW⟩ rfl rfl hl.1 rfl (lv_room (Nat.le_of_ble_eq_true rfl)) dX7_hear_224 ⟨Nat.le_of_ble_eq_true rfl, Nat.le_of_ble_eq_true rfl⟩) hS (fun q _ h => hFc q h) hFc (fun r u t H locs ht hvm hw hB hz1 hk1 hS => ?_)
                      refine ex_4_3 hB (fun x_387 x_388 f_389 f_390 b_x_387 b_x_388 e_x_387_0 hB => ?_)
                      obtain ⟨hP, hD⟩ := Bw.goA (ws' := [(oc7 oM iM_thrown rM_tape iM_taped iM_size iM_at iM_end iM_token iM_whole iM_nameSize iM_fault iM_place iM_trouble rM_letters iM_failed iM_hasCourt rM_r rM_fresh rM_told rM_read rM_st rM_undone rM_kept iM_undos iM_images rM_fresher iM_fresherSize iM_scale iM_night rM_heardRow rM_cutRow x_387 x_388 iM_allBreaths rM_trial rM_words iM_fewestBreaths iM_orderMany iM_orderSum iM_leastOrder rM_often iM_setMany iM_someOf iM_allOf iM_allWeight iM_enoughWeight iM_worthSum iM_firstRest iM_leastDrawn), (arI rM_r kM_r 287 fM_r), (arI rM_told kM_told 90 fM_told), (arI rM_heardRow kM_heardRow 400 f_389), (arI rM_cutRow kM_cutRow 800 f_390), (arI rQ kQ 90 fQ)]) hB rfl ht hFc rfl
                      clear hz1 hk1 hvm ht hB
                      obtain ⟨x_391, rfl⟩ : ∃ z, z = r := ⟨_, rfl⟩
                      refine lv_istore (lv' := [(10, .int x_391), (9, .int x_383), (8, .int z_370), (7, .int x_369), (6, .int z_371), (5, .int x_364), (0, .ref oM), (1, .ref rQ), (2, .int p0), (3, .int p1), (4, .int p2)]) hx hb dX7_hear_227 hl (by decide) rfl (fun ls hl => ?_)
                      refine lv_iload hx hb dX7_hear_229 (lv_at hl 0 rfl) ?_
                      refine lv_iload hx hb dX7_hear_231 (lv_at hl 4 rfl) ?_
                      refine lv_icmp_ge (tgt := 241) hx hb dX7_hear_233 (by decide) (fun c_392 => ?_) (fun c_392 => ?_)
                      · skip
                        have gc_392 := ti_le c_392 rfl rfl
                        refine lv_iload hx hb dX7_hear_241 (lv_at hl 4 rfl) ?_
                        refine lv_istore (lv' := [(6, .int z_371), (10, .int x_391), (9, .int x_383), (8, .int z_370), (7, .int x_369), (5, .int x_364), (0, .ref oM), (1, .ref rQ), (2, .int p0), (3, .int p1), (4, .int p2)]) hx hb dX7_hear_243 hl (by decide) rfl (fun ls hl => ?_)
                        refine lv_iload hx hb dX7_hear_245 (lv_at hl 0 rfl) ?_
                        refine lv_iload_n hx hb dX7_hear_247 rfl (lv_at hl 9 rfl) ?_
                        refine lv_icmp_gt (tgt := 264) hx hb dX7_hear_248 (by decide) (fun c_393 => ?_) (fun c_393 => ?_)
                        · skip
                          have gc_393 := ti_lt c_393 rfl rfl
                          obtain ⟨x_394, ex_394⟩ : ∃ z : Int32, z = z_370 + Int32.ofInt 1 := ⟨_, rfl⟩
                          have vx_394 : x_394.toInt = z_370.toInt + 1 := ti_add (y := 1) ex_394 rfl kc_1 (om_4e4fce7e hi0_n_376.1) (om_d6392c09 mn_p0.2 hi0_n_376.2)
                          refine lv_iinc (v := x_394) (lv' := [(8, .int x_394), (6, .int z_371), (10, .int x_391), (9, .int x_383), (7, .int x_369), (5, .int x_364), (0, .ref oM), (1, .ref rQ), (2, .int p0), (3, .int p1), (4, .int p2)]) hx hb dX7_hear_264 hl (k := 3) rfl ex_394.symm (by decide) rfl (fun ls hl => ?_)
                          refine lv_goto (tgt := 87) hx hb dX7_hear_267 (by decide) ?_
                          exact ih_n_376 x_394 z_371 x_387 x_388 f_389 f_390 _ _ _ b_x_387 b_x_388 ⟨(om_83b90de5 hi0_n_376.1 vx_394), (om_1ad1f819 cx_369 gc_377 vx_394)⟩ (by rw [show x_394.toNatClampNeg = z_370.toNatClampNeg + 1 from (by have q_1 := ti_cl (x := x_394) vx_394 (om_9548a8fd hi0_n_376.1); have q_2 := ti_cl (x := z_370) rfl hi0_n_376.1; omega)]; omega) (ms_lt hm_n_376 (om_dd4ae0bc vx_394) (om_6d498008 cx_369 gc_377)) hP hD hS (lv_sub hl [0, 4, 1, 5, 6, 7, 8, 9, 10] rfl)
                        · skip
                          have gc_393 := ti_nlt c_393 rfl rfl
                          refine lv_aload_n hx hb dX7_hear_251 rfl (lv_at hl 6 rfl) ?_
                          refine lv_aload_n hx hb dX7_hear_252 rfl (lv_at hl 7 rfl) ?_
                          refine lv_iload_n hx hb dX7_hear_253 rfl (lv_at hl 8 rfl) ?_
                          refine lv_iload hx hb dX7_hear_254 (lv_at hl 3 rfl) ?_
                          refine lv_iconst (v := 1) hx hb dX7_hear_256 (by decide) ?_
                          refine lv_iadd hx hb dX7_hear_257 ?_
                          refine lv_topi (fun x_395 ex_395 => ?_)
                          have vx_395 : x_395.toInt = z_370.toInt + 1 := ti_add ex_395 rfl kc_1 (om_4e4fce7e hi0_n_376.1) (om_d6392c09 mn_p0.2 hi0_n_376.2)
                          refine lv_iload hx hb dX7_hear_258 (lv_at hl 0 rfl) ?_
                          have hMs := ml_of hD [true, true, false, false, true, true] (wc := [(oc7 oM iM_thrown rM_tape iM_taped iM_size iM_at iM_end iM_token iM_whole iM_nameSize iM_fault iM_place iM_trouble rM_letters iM_failed iM_hasCourt rM_r rM_fresh rM_told rM_read rM_st rM_undone rM_kept iM_undos iM_images rM_fresher iM_fresherSize iM_scale iM_night rM_heardRow rM_cutRow x_387 x_388 iM_allBreaths rM_trial rM_words iM_fewestBreaths iM_orderMany iM_orderSum iM_leastOrder rM_often iM_setMany iM_someOf iM_allOf iM_allWeight iM_enoughWeight iM_worthSum iM_firstRest iM_leastDrawn), (arI rM_r kM_r 287 fM_r), (arI rM_cutRow kM_cutRow 800 f_390), (arI rQ kQ 90 fQ)]) rfl
                          have hFc := va_freeM hD hS hA _ hMs
                          refine va_calli (va_runV (As := [.ref rQ, .int p0, .int x_395, .int z_371]) (rest := []) ⟨hx, hb, hml, hown, hts⟩ (tX7_cutFrom l dC dI _ oM iM_thrown rM_tape iM_taped iM_size iM_at iM_end iM_token iM_whole iM_nameSize iM_fault iM_place iM_trouble rM_letters iM_failed iM_hasCourt rM_r fM_r kM_r rM_fresh rM_told rM_read rM_st rM_undone rM_kept iM_undos iM_images rM_fresher iM_fresherSize iM_scale iM_night rM_heardRow rM_cutRow f_390 kM_cutRow x_387 x_388 iM_allBreaths rM_trial rM_words iM_fewestBreaths iM_orderMany iM_orderSum iM_leastOrder rM_often iM_setMany iM_someOf iM_allOf iM_allWeight iM_enoughWeight iM_worthSum iM_firstRest iM_leastDrawn rQ fQ kQ p0 x_395 z_371 b_iM_taped b_iM_size b_iM_end b_iM_failed b_iM_hasCourt b_iM_undos b_iM_images b_iM_scale b_x_387 b_x_388 (by assumption) (by assumption) (by assumption) ⟨hk0.1, hk0.2⟩ ⟨(om_83b90de5 hi0_n_376.1 vx_395), (om_1ad1f819 cx_369 gc_377 vx_395)⟩ (by first | assumption | (have q0 := kc_0; have q1 := kc_1; first | exact ⟨by omega, by omega⟩ | omega) | decide | (intro h; exact absurd h (by decide)))) (cwV 4 hts (wd_V wd_783 wd_784 wd_785 wd_5 (wd_c wd_786)) rfl rfl rfl dv_yX7_cutFrom_4 ⟨(om_8728f9b4 n9), (om_05453fa9 n9)⟩) ⟨Pw.fb, recvX7 hK hP (q0 := 0) rfl, fun U hU hW => Pw.to (hP.ms _ hMs) (hD.ms _ hMs) (hK.ms [true, false, false, true, true] rfl) hE hS hFc hU hW⟩ rfl rfl hl.1 rfl (lv_room (Nat.le_of_ble_eq_true rfl)) dX7_hear_260 ⟨Nat.le_of_ble_eq_true rfl, Nat.le_of_ble_eq_true rfl⟩) hS (fun q _ h => hFc q h) hFc (fun r u t H locs ht hvm hw hB hz1 hk1 hS => ?_)
                          refine ex_2_2 hB (fun x_396 f_397 b_x_396 e_x_396_0 hB => ?_)
                          obtain ⟨hP, hD⟩ := Bw.goN (ws' := [(oc7 oM iM_thrown rM_tape iM_taped iM_size iM_at iM_end iM_token iM_whole iM_nameSize iM_fault iM_place iM_trouble rM_letters iM_failed iM_hasCourt rM_r rM_fresh rM_told rM_read rM_st rM_undone rM_kept iM_undos iM_images rM_fresher iM_fresherSize iM_scale iM_night rM_heardRow rM_cutRow x_387 x_396 iM_allBreaths rM_trial rM_words iM_fewestBreaths iM_orderMany iM_orderSum iM_leastOrder rM_often iM_setMany iM_someOf iM_allOf iM_allWeight iM_enoughWeight iM_worthSum iM_firstRest iM_leastDrawn), (arI rM_r kM_r 287 fM_r), (arI rM_told kM_told 90 fM_told), (arI rM_heardRow kM_heardRow 400 f_389), (arI rM_cutRow kM_cutRow 800 f_397), (arI rQ kQ 90 fQ)]) hB rfl ht hP hD _ hMs hk1 hFc rfl
                          clear hz1 hk1 hvm ht hB hMs
                          obtain ⟨x_398, rfl⟩ : ∃ z, z = r := ⟨_, rfl⟩
                          exact wq_i hx hb hr 0 ⟨trivial, trivial⟩ (fun t ht hW => ⟨x_387, x_396, f_389, f_397, b_x_387, b_x_396, (by first | omega | decide | assumption), Bw.to hP hD hK ht hW⟩) hS dX7_hear_263 hlocks
                      · skip
                        have gc_392 := ti_nle c_392 rfl rfl
                        refine lv_iload hx hb dX7_hear_236 (lv_at hl 0 rfl) ?_
                        refine lv_goto (tgt := 243) hx hb dX7_hear_238 (by decide) ?_
                        refine lv_istore (lv' := [(6, .int x_391), (10, .int x_391), (9, .int x_383), (8, .int z_370), (7, .int x_369), (5, .int x_364), (0, .ref oM), (1, .ref rQ), (2, .int p0), (3, .int p1), (4, .int p2)]) hx hb dX7_hear_243 hl (by decide) rfl (fun ls hl => ?_)
                        refine lv_iload hx hb dX7_hear_245 (lv_at hl 0 rfl) ?_
                        refine lv_iload_n hx hb dX7_hear_247 rfl (lv_at hl 9 rfl) ?_
                        refine lv_icmp_gt (tgt := 264) hx hb dX7_hear_248 (by decide) (fun c_399 => ?_) (fun c_399 => ?_)
                        · skip
                          have gc_399 := ti_lt c_399 rfl rfl
                          obtain ⟨x_400, ex_400⟩ : ∃ z : Int32, z = z_370 + Int32.ofInt 1 := ⟨_, rfl⟩
                          have vx_400 : x_400.toInt = z_370.toInt + 1 := ti_add (y := 1) ex_400 rfl kc_1 (om_4e4fce7e hi0_n_376.1) (om_d6392c09 mn_p0.2 hi0_n_376.2)
                          refine lv_iinc (v := x_400) (lv' := [(8, .int x_400), (6, .int x_391), (10, .int x_391), (9, .int x_383), (7, .int x_369), (5, .int x_364), (0, .ref oM), (1, .ref rQ), (2, .int p0), (3, .int p1), (4, .int p2)]) hx hb dX7_hear_264 hl (k := 3) rfl ex_400.symm (by decide) rfl (fun ls hl => ?_)
                          refine lv_goto (tgt := 87) hx hb dX7_hear_267 (by decide) ?_
                          exact ih_n_376 x_400 x_391 x_387 x_388 f_389 f_390 _ _ _ b_x_387 b_x_388 ⟨(om_83b90de5 hi0_n_376.1 vx_400), (om_1ad1f819 cx_369 gc_377 vx_400)⟩ (by rw [show x_400.toNatClampNeg = z_370.toNatClampNeg + 1 from (by have q_1 := ti_cl (x := x_400) vx_400 (om_9548a8fd hi0_n_376.1); have q_2 := ti_cl (x := z_370) rfl hi0_n_376.1; omega)]; omega) (ms_lt hm_n_376 (om_dd4ae0bc vx_400) (om_6d498008 cx_369 gc_377)) hP hD hS (lv_sub hl [0, 4, 1, 5, 6, 7, 8, 9, 10] rfl)
                        · skip
                          have gc_399 := ti_nlt c_399 rfl rfl
                          refine lv_aload_n hx hb dX7_hear_251 rfl (lv_at hl 6 rfl) ?_
                          refine lv_aload_n hx hb dX7_hear_252 rfl (lv_at hl 7 rfl) ?_
                          refine lv_iload_n hx hb dX7_hear_253 rfl (lv_at hl 8 rfl) ?_
                          refine lv_iload hx hb dX7_hear_254 (lv_at hl 3 rfl) ?_
                          refine lv_iconst (v := 1) hx hb dX7_hear_256 (by decide) ?_
                          refine lv_iadd hx hb dX7_hear_257 ?_
                          refine lv_topi (fun x_401 ex_401 => ?_)
                          have vx_401 : x_401.toInt = z_370.toInt + 1 := ti_add ex_401 rfl kc_1 (om_4e4fce7e hi0_n_376.1) (om_d6392c09 mn_p0.2 hi0_n_376.2)
                          refine lv_iload hx hb dX7_hear_258 (lv_at hl 0 rfl) ?_
                          have hMs := ml_of hD [true, true, false, false, true, true] (wc := [(oc7 oM iM_thrown rM_tape iM_taped iM_size iM_at iM_end iM_token iM_whole iM_nameSize iM_fault iM_place iM_trouble rM_letters iM_failed iM_hasCourt rM_r rM_fresh rM_told rM_read rM_st rM_undone rM_kept iM_undos iM_images rM_fresher iM_fresherSize iM_scale iM_night rM_heardRow rM_cutRow x_387 x_388 iM_allBreaths rM_trial rM_words iM_fewestBreaths iM_orderMany iM_orderSum iM_leastOrder rM_often iM_setMany iM_someOf iM_allOf iM_allWeight iM_enoughWeight iM_worthSum iM_firstRest iM_leastDrawn), (arI rM_r kM_r 287 fM_r), (arI rM_cutRow kM_cutRow 800 f_390), (arI rQ kQ 90 fQ)]) rfl
                          have hFc := va_freeM hD hS hA _ hMs
                          refine va_calli (va_runV (As := [.ref rQ, .int p0, .int x_401, .int x_391]) (rest := []) ⟨hx, hb, hml, hown, hts⟩ (tX7_cutFrom l dC dI _ oM iM_thrown rM_tape iM_taped iM_size iM_at iM_end iM_token iM_whole iM_nameSize iM_fault iM_place iM_trouble rM_letters iM_failed iM_hasCourt rM_r fM_r kM_r rM_fresh rM_told rM_read rM_st rM_undone rM_kept iM_undos iM_images rM_fresher iM_fresherSize iM_scale iM_night rM_heardRow rM_cutRow f_390 kM_cutRow x_387 x_388 iM_allBreaths rM_trial rM_words iM_fewestBreaths iM_orderMany iM_orderSum iM_leastOrder rM_often iM_setMany iM_someOf iM_allOf iM_allWeight iM_enoughWeight iM_worthSum iM_firstRest iM_leastDrawn rQ fQ kQ p0 x_401 x_391 b_iM_taped b_iM_size b_iM_end b_iM_failed b_iM_hasCourt b_iM_undos b_iM_images b_iM_scale b_x_387 b_x_388 (by assumption) (by assumption) (by assumption) ⟨hk0.1, hk0.2⟩ ⟨(om_83b90de5 hi0_n_376.1 vx_401), (om_1ad1f819 cx_369 gc_377 vx_401)⟩ (by first | assumption | (have q0 := kc_0; have q1 := kc_1; first | exact ⟨by omega, by omega⟩ | omega) | decide | (intro h; exact absurd h (by decide)))) (cwV 4 hts (wd_V wd_783 wd_784 wd_785 wd_5 (wd_c wd_786)) rfl rfl rfl dv_yX7_cutFrom_4 ⟨(om_8728f9b4 n9), (om_05453fa9 n9)⟩) ⟨Pw.fb, recvX7 hK hP (q0 := 0) rfl, fun U hU hW => Pw.to (hP.ms _ hMs) (hD.ms _ hMs) (hK.ms [true, false, false, true, true] rfl) hE hS hFc hU hW⟩ rfl rfl hl.1 rfl (lv_room (Nat.le_of_ble_eq_true rfl)) dX7_hear_260 ⟨Nat.le_of_ble_eq_true rfl, Nat.le_of_ble_eq_true rfl⟩) hS (fun q _ h => hFc q h) hFc (fun r u t H locs ht hvm hw hB hz1 hk1 hS => ?_)
                          refine ex_2_2 hB (fun x_402 f_403 b_x_402 e_x_402_0 hB => ?_)
                          obtain ⟨hP, hD⟩ := Bw.goN (ws' := [(oc7 oM iM_thrown rM_tape iM_taped iM_size iM_at iM_end iM_token iM_whole iM_nameSize iM_fault iM_place iM_trouble rM_letters iM_failed iM_hasCourt rM_r rM_fresh rM_told rM_read rM_st rM_undone rM_kept iM_undos iM_images rM_fresher iM_fresherSize iM_scale iM_night rM_heardRow rM_cutRow x_387 x_402 iM_allBreaths rM_trial rM_words iM_fewestBreaths iM_orderMany iM_orderSum iM_leastOrder rM_often iM_setMany iM_someOf iM_allOf iM_allWeight iM_enoughWeight iM_worthSum iM_firstRest iM_leastDrawn), (arI rM_r kM_r 287 fM_r), (arI rM_told kM_told 90 fM_told), (arI rM_heardRow kM_heardRow 400 f_389), (arI rM_cutRow kM_cutRow 800 f_403), (arI rQ kQ 90 fQ)]) hB rfl ht hP hD _ hMs hk1 hFc rfl
                          clear hz1 hk1 hvm ht hB hMs
                          obtain ⟨x_404, rfl⟩ : ∃ z, z = r := ⟨_, rfl⟩
                          exact wq_i hx hb hr 0 ⟨trivial, trivial⟩ (fun t ht hW => ⟨x_387, x_402, f_389, f_403, b_x_387, b_x_402, (by first | omega | decide | assumption), Bw.to hP hD hK ht hW⟩) hS dX7_hear_263 hlocks
                    · skip
                      have gc_386 := ti_nle c_386 rfl rfl
                      refine lv_iload hx hb dX7_hear_217 (lv_at hl 3 rfl) ?_
                      refine lv_goto (tgt := 224) hx hb dX7_hear_219 (by decide) ?_
                      have hFc := va_freeI hD hS hA
                      refine va_calli (va_runV (As := [.ref rQ, .int x_383, .int p1, .int z_371]) (rest := []) ⟨hx, hb, hml, hown, hts⟩ (ih9 _ oM iM_thrown rM_tape iM_taped iM_size iM_at iM_end iM_token iM_whole iM_nameSize iM_fault iM_place iM_trouble rM_letters iM_failed iM_hasCourt rM_r fM_r kM_r rM_fresh rM_told fM_told kM_told rM_read rM_st rM_undone rM_kept iM_undos iM_images rM_fresher iM_fresherSize iM_scale iM_night rM_heardRow f_374 kM_heardRow rM_cutRow f_375 kM_cutRow z_372 z_373 iM_allBreaths rM_trial rM_words iM_fewestBreaths iM_orderMany iM_orderSum iM_leastOrder rM_often iM_setMany iM_someOf iM_allOf iM_allWeight iM_enoughWeight iM_worthSum iM_firstRest iM_leastDrawn rQ fQ kQ x_383 p1 z_371 b_iM_taped b_iM_size b_iM_end b_iM_failed b_iM_hasCourt b_iM_undos b_iM_images b_iM_scale b_z_372 b_z_373 (by assumption) (by assumption) (by assumption) (by assumption) ⟨wx_383.1, (om_90a71968 hk0.2 wx_383.2)⟩ (by first | assumption | (have q0 := kc_0; have q1 := kc_1; first | exact ⟨by omega, by omega⟩ | omega) | decide | (intro h; exact absurd h (by decide))) (by first | assumption | (have q0 := kc_0; have q1 := kc_1; first | exact ⟨by omega, by omega⟩ | omega) | decide | (intro h; exact absurd h (by decide)))) (cwV 4 hts (wd_V wd_779 wd_780 wd_781 wd_5 (wd_c wd_782)) rfl rfl rfl (by decide +kernel) ⟨(om_70783806 n9), (om_db56e044 n9)⟩) ⟨Pw.fb, recvX7 hK hP (q0 := 0) rfl, fun U hU hW => Pw.to hP hD hK hE hS hFc hU hW⟩ rfl rfl hl.1 rfl (lv_room (Nat.le_of_ble_eq_true rfl)) dX7_hear_224 ⟨Nat.le_of_ble_eq_true rfl, Nat.le_of_ble_eq_true rfl⟩) hS (fun q _ h => hFc q h) hFc (fun r u t H locs ht hvm hw hB hz1 hk1 hS => ?_)
                      refine ex_4_3 hB (fun x_405 x_406 f_407 f_408 b_x_405 b_x_406 e_x_405_0 hB => ?_)
                      obtain ⟨hP, hD⟩ := Bw.goA (ws' := [(oc7 oM iM_thrown rM_tape iM_taped iM_size iM_at iM_end iM_token iM_whole iM_nameSize iM_fault iM_place iM_trouble rM_letters iM_failed iM_hasCourt rM_r rM_fresh rM_told rM_read rM_st rM_undone rM_kept iM_undos iM_images rM_fresher iM_fresherSize iM_scale iM_night rM_heardRow rM_cutRow x_405 x_406 iM_allBreaths rM_trial rM_words iM_fewestBreaths iM_orderMany iM_orderSum iM_leastOrder rM_often iM_setMany iM_someOf iM_allOf iM_allWeight iM_enoughWeight iM_worthSum iM_firstRest iM_leastDrawn), (arI rM_r kM_r 287 fM_r), (arI rM_told kM_told 90 fM_told), (arI rM_heardRow kM_heardRow 400 f_407), (arI rM_cutRow kM_cutRow 800 f_408), (arI rQ kQ 90 fQ)]) hB rfl ht hFc rfl
                      clear hz1 hk1 hvm ht hB
                      obtain ⟨x_409, rfl⟩ : ∃ z, z = r := ⟨_, rfl⟩
                      refine lv_istore (lv' := [(10, .int x_409), (9, .int x_383), (8, .int z_370), (7, .int x_369), (6, .int z_371), (5, .int x_364), (0, .ref oM), (1, .ref rQ), (2, .int p0), (3, .int p1), (4, .int p2)]) hx hb dX7_hear_227 hl (by decide) rfl (fun ls hl => ?_)
                      refine lv_iload hx hb dX7_hear_229 (lv_at hl 0 rfl) ?_
                      refine lv_iload hx hb dX7_hear_231 (lv_at hl 4 rfl) ?_
                      refine lv_icmp_ge (tgt := 241) hx hb dX7_hear_233 (by decide) (fun c_410 => ?_) (fun c_410 => ?_)
                      · skip
                        have gc_410 := ti_le c_410 rfl rfl
                        refine lv_iload hx hb dX7_hear_241 (lv_at hl 4 rfl) ?_
                        refine lv_istore (lv' := [(6, .int z_371), (10, .int x_409), (9, .int x_383), (8, .int z_370), (7, .int x_369), (5, .int x_364), (0, .ref oM), (1, .ref rQ), (2, .int p0), (3, .int p1), (4, .int p2)]) hx hb dX7_hear_243 hl (by decide) rfl (fun ls hl => ?_)
                        refine lv_iload hx hb dX7_hear_245 (lv_at hl 0 rfl) ?_
                        refine lv_iload_n hx hb dX7_hear_247 rfl (lv_at hl 9 rfl) ?_
                        refine lv_icmp_gt (tgt := 264) hx hb dX7_hear_248 (by decide) (fun c_411 => ?_) (fun c_411 => ?_)
                        · skip
                          have gc_411 := ti_lt c_411 rfl rfl
                          obtain ⟨x_412, ex_412⟩ : ∃ z : Int32, z = z_370 + Int32.ofInt 1 := ⟨_, rfl⟩
                          have vx_412 : x_412.toInt = z_370.toInt + 1 := ti_add (y := 1) ex_412 rfl kc_1 (om_4e4fce7e hi0_n_376.1) (om_d6392c09 mn_p0.2 hi0_n_376.2)
                          refine lv_iinc (v := x_412) (lv' := [(8, .int x_412), (6, .int z_371), (10, .int x_409), (9, .int x_383), (7, .int x_369), (5, .int x_364), (0, .ref oM), (1, .ref rQ), (2, .int p0), (3, .int p1), (4, .int p2)]) hx hb dX7_hear_264 hl (k := 3) rfl ex_412.symm (by decide) rfl (fun ls hl => ?_)
                          refine lv_goto (tgt := 87) hx hb dX7_hear_267 (by decide) ?_
                          exact ih_n_376 x_412 z_371 x_405 x_406 f_407 f_408 _ _ _ b_x_405 b_x_406 ⟨(om_83b90de5 hi0_n_376.1 vx_412), (om_1ad1f819 cx_369 gc_377 vx_412)⟩ (by rw [show x_412.toNatClampNeg = z_370.toNatClampNeg + 1 from (by have q_1 := ti_cl (x := x_412) vx_412 (om_9548a8fd hi0_n_376.1); have q_2 := ti_cl (x := z_370) rfl hi0_n_376.1; omega)]; omega) (ms_lt hm_n_376 (om_dd4ae0bc vx_412) (om_6d498008 cx_369 gc_377)) hP hD hS (lv_sub hl [0, 4, 1, 5, 6, 7, 8, 9, 10] rfl)
                        · skip
                          have gc_411 := ti_nlt c_411 rfl rfl
                          refine lv_aload_n hx hb dX7_hear_251 rfl (lv_at hl 6 rfl) ?_
                          refine lv_aload_n hx hb dX7_hear_252 rfl (lv_at hl 7 rfl) ?_
                          refine lv_iload_n hx hb dX7_hear_253 rfl (lv_at hl 8 rfl) ?_
                          refine lv_iload hx hb dX7_hear_254 (lv_at hl 3 rfl) ?_
                          refine lv_iconst (v := 1) hx hb dX7_hear_256 (by decide) ?_
                          refine lv_iadd hx hb dX7_hear_257 ?_
                          refine lv_topi (fun x_413 ex_413 => ?_)
                          have vx_413 : x_413.toInt = z_370.toInt + 1 := ti_add ex_413 rfl kc_1 (om_4e4fce7e hi0_n_376.1) (om_d6392c09 mn_p0.2 hi0_n_376.2)
                          refine lv_iload hx hb dX7_hear_258 (lv_at hl 0 rfl) ?_
                          have hMs := ml_of hD [true, true, false, false, true, true] (wc := [(oc7 oM iM_thrown rM_tape iM_taped iM_size iM_at iM_end iM_token iM_whole iM_nameSize iM_fault iM_place iM_trouble rM_letters iM_failed iM_hasCourt rM_r rM_fresh rM_told rM_read rM_st rM_undone rM_kept iM_undos iM_images rM_fresher iM_fresherSize iM_scale iM_night rM_heardRow rM_cutRow x_405 x_406 iM_allBreaths rM_trial rM_words iM_fewestBreaths iM_orderMany iM_orderSum iM_leastOrder rM_often iM_setMany iM_someOf iM_allOf iM_allWeight iM_enoughWeight iM_worthSum iM_firstRest iM_leastDrawn), (arI rM_r kM_r 287 fM_r), (arI rM_cutRow kM_cutRow 800 f_408), (arI rQ kQ 90 fQ)]) rfl
                          have hFc := va_freeM hD hS hA _ hMs
                          refine va_calli (va_runV (As := [.ref rQ, .int p0, .int x_413, .int z_371]) (rest := []) ⟨hx, hb, hml, hown, hts⟩ (tX7_cutFrom l dC dI _ oM iM_thrown rM_tape iM_taped iM_size iM_at iM_end iM_token iM_whole iM_nameSize iM_fault iM_place iM_trouble rM_letters iM_failed iM_hasCourt rM_r fM_r kM_r rM_fresh rM_told rM_read rM_st rM_undone rM_kept iM_undos iM_images rM_fresher iM_fresherSize iM_scale iM_night rM_heardRow rM_cutRow f_408 kM_cutRow x_405 x_406 iM_allBreaths rM_trial rM_words iM_fewestBreaths iM_orderMany iM_orderSum iM_leastOrder rM_often iM_setMany iM_someOf iM_allOf iM_allWeight iM_enoughWeight iM_worthSum iM_firstRest iM_leastDrawn rQ fQ kQ p0 x_413 z_371 b_iM_taped b_iM_size b_iM_end b_iM_failed b_iM_hasCourt b_iM_undos b_iM_images b_iM_scale b_x_405 b_x_406 (by assumption) (by assumption) (by assumption) ⟨hk0.1, hk0.2⟩ ⟨(om_83b90de5 hi0_n_376.1 vx_413), (om_1ad1f819 cx_369 gc_377 vx_413)⟩ (by first | assumption | (have q0 := kc_0; have q1 := kc_1; first | exact ⟨by omega, by omega⟩ | omega) | decide | (intro h; exact absurd h (by decide)))) (cwV 4 hts (wd_V wd_783 wd_784 wd_785 wd_5 (wd_c wd_786)) rfl rfl rfl dv_yX7_cutFrom_4 ⟨(om_8728f9b4 n9), (om_05453fa9 n9)⟩) ⟨Pw.fb, recvX7 hK hP (q0 := 0) rfl, fun U hU hW => Pw.to (hP.ms _ hMs) (hD.ms _ hMs) (hK.ms [true, false, false, true, true] rfl) hE hS hFc hU hW⟩ rfl rfl hl.1 rfl (lv_room (Nat.le_of_ble_eq_true rfl)) dX7_hear_260 ⟨Nat.le_of_ble_eq_true rfl, Nat.le_of_ble_eq_true rfl⟩) hS (fun q _ h => hFc q h) hFc (fun r u t H locs ht hvm hw hB hz1 hk1 hS => ?_)
                          refine ex_2_2 hB (fun x_414 f_415 b_x_414 e_x_414_0 hB => ?_)
                          obtain ⟨hP, hD⟩ := Bw.goN (ws' := [(oc7 oM iM_thrown rM_tape iM_taped iM_size iM_at iM_end iM_token iM_whole iM_nameSize iM_fault iM_place iM_trouble rM_letters iM_failed iM_hasCourt rM_r rM_fresh rM_told rM_read rM_st rM_undone rM_kept iM_undos iM_images rM_fresher iM_fresherSize iM_scale iM_night rM_heardRow rM_cutRow x_405 x_414 iM_allBreaths rM_trial rM_words iM_fewestBreaths iM_orderMany iM_orderSum iM_leastOrder rM_often iM_setMany iM_someOf iM_allOf iM_allWeight iM_enoughWeight iM_worthSum iM_firstRest iM_leastDrawn), (arI rM_r kM_r 287 fM_r), (arI rM_told kM_told 90 fM_told), (arI rM_heardRow kM_heardRow 400 f_407), (arI rM_cutRow kM_cutRow 800 f_415), (arI rQ kQ 90 fQ)]) hB rfl ht hP hD _ hMs hk1 hFc rfl
                          clear hz1 hk1 hvm ht hB hMs
                          obtain ⟨x_416, rfl⟩ : ∃ z, z = r := ⟨_, rfl⟩
                          exact wq_i hx hb hr 0 ⟨trivial, trivial⟩ (fun t ht hW => ⟨x_405, x_414, f_407, f_415, b_x_405, b_x_414, (by first | omega | decide | assumption), Bw.to hP hD hK ht hW⟩) hS dX7_hear_263 hlocks
                      · skip
                        have gc_410 := ti_nle c_410 rfl rfl
                        refine lv_iload hx hb dX7_hear_236 (lv_at hl 0 rfl) ?_
                        refine lv_goto (tgt := 243) hx hb dX7_hear_238 (by decide) ?_
                        refine lv_istore (lv' := [(6, .int x_409), (10, .int x_409), (9, .int x_383), (8, .int z_370), (7, .int x_369), (5, .int x_364), (0, .ref oM), (1, .ref rQ), (2, .int p0), (3, .int p1), (4, .int p2)]) hx hb dX7_hear_243 hl (by decide) rfl (fun ls hl => ?_)
                        refine lv_iload hx hb dX7_hear_245 (lv_at hl 0 rfl) ?_
                        refine lv_iload_n hx hb dX7_hear_247 rfl (lv_at hl 9 rfl) ?_
                        refine lv_icmp_gt (tgt := 264) hx hb dX7_hear_248 (by decide) (fun c_417 => ?_) (fun c_417 => ?_)
                        · skip
                          have gc_417 := ti_lt c_417 rfl rfl
                          obtain ⟨x_418, ex_418⟩ : ∃ z : Int32, z = z_370 + Int32.ofInt 1 := ⟨_, rfl⟩
                          have vx_418 : x_418.toInt = z_370.toInt + 1 := ti_add (y := 1) ex_418 rfl kc_1 (om_4e4fce7e hi0_n_376.1) (om_d6392c09 mn_p0.2 hi0_n_376.2)
                          refine lv_iinc (v := x_418) (lv' := [(8, .int x_418), (6, .int x_409), (10, .int x_409), (9, .int x_383), (7, .int x_369), (5, .int x_364), (0, .ref oM), (1, .ref rQ), (2, .int p0), (3, .int p1), (4, .int p2)]) hx hb dX7_hear_264 hl (k := 3) rfl ex_418.symm (by decide) rfl (fun ls hl => ?_)
                          refine lv_goto (tgt := 87) hx hb dX7_hear_267 (by decide) ?_
                          exact ih_n_376 x_418 x_409 x_405 x_406 f_407 f_408 _ _ _ b_x_405 b_x_406 ⟨(om_83b90de5 hi0_n_376.1 vx_418), (om_1ad1f819 cx_369 gc_377 vx_418)⟩ (by rw [show x_418.toNatClampNeg = z_370.toNatClampNeg + 1 from (by have q_1 := ti_cl (x := x_418) vx_418 (om_9548a8fd hi0_n_376.1); have q_2 := ti_cl (x := z_370) rfl hi0_n_376.1; omega)]; omega) (ms_lt hm_n_376 (om_dd4ae0bc vx_418) (om_6d498008 cx_369 gc_377)) hP hD hS (lv_sub hl [0, 4, 1, 5, 6, 7, 8, 9, 10] rfl)
                        · skip
                          have gc_417 := ti_nlt c_417 rfl rfl
                          refine lv_aload_n hx hb dX7_hear_251 rfl (lv_at hl 6 rfl) ?_
                          refine lv_aload_n hx hb dX7_hear_252 rfl (lv_at hl 7 rfl) ?_
                          refine lv_iload_n hx hb dX7_hear_253 rfl (lv_at hl 8 rfl) ?_
                          refine lv_iload hx hb dX7_hear_254 (lv_at hl 3 rfl) ?_
                          refine lv_iconst (v := 1) hx hb dX7_hear_256 (by decide) ?_
                          refine lv_iadd hx hb dX7_hear_257 ?_
                          refine lv_topi (fun x_419 ex_419 => ?_)
                          have vx_419 : x_419.toInt = z_370.toInt + 1 := ti_add ex_419 rfl kc_1 (om_4e4fce7e hi0_n_376.1) (om_d6392c09 mn_p0.2 hi0_n_376.2)
                          refine lv_iload hx hb dX7_hear_258 (lv_at hl 0 rfl) ?_
                          have hMs := ml_of hD [true, true, false, false, true, true] (wc := [(oc7 oM iM_thrown rM_tape iM_taped iM_size iM_at iM_end iM_token iM_whole iM_nameSize iM_fault iM_place iM_trouble rM_letters iM_failed iM_hasCourt rM_r rM_fresh rM_told rM_read rM_st rM_undone rM_kept iM_undos iM_images rM_fresher iM_fresherSize iM_scale iM_night rM_heardRow rM_cutRow x_405 x_406 iM_allBreaths rM_trial rM_words iM_fewestBreaths iM_orderMany iM_orderSum iM_leastOrder rM_often iM_setMany iM_someOf iM_allOf iM_allWeight iM_enoughWeight iM_worthSum iM_firstRest iM_leastDrawn), (arI rM_r kM_r 287 fM_r), (arI rM_cutRow kM_cutRow 800 f_408), (arI rQ kQ 90 fQ)]) rfl
                          have hFc := va_freeM hD hS hA _ hMs
                          refine va_calli (va_runV (As := [.ref rQ, .int p0, .int x_419, .int x_409]) (rest := []) ⟨hx, hb, hml, hown, hts⟩ (tX7_cutFrom l dC dI _ oM iM_thrown rM_tape iM_taped iM_size iM_at iM_end iM_token iM_whole iM_nameSize iM_fault iM_place iM_trouble rM_letters iM_failed iM_hasCourt rM_r fM_r kM_r rM_fresh rM_told rM_read rM_st rM_undone rM_kept iM_undos iM_images rM_fresher iM_fresherSize iM_scale iM_night rM_heardRow rM_cutRow f_408 kM_cutRow x_405 x_406 iM_allBreaths rM_trial rM_words iM_fewestBreaths iM_orderMany iM_orderSum iM_leastOrder rM_often iM_setMany iM_someOf iM_allOf iM_allWeight iM_enoughWeight iM_worthSum iM_firstRest iM_leastDrawn rQ fQ kQ p0 x_419 x_409 b_iM_taped b_iM_size b_iM_end b_iM_failed b_iM_hasCourt b_iM_undos b_iM_images b_iM_scale b_x_405 b_x_406 (by assumption) (by assumption) (by assumption) ⟨hk0.1, hk0.2⟩ ⟨(om_83b90de5 hi0_n_376.1 vx_419), (om_1ad1f819 cx_369 gc_377 vx_419)⟩ (by first | assumption | (have q0 := kc_0; have q1 := kc_1; first | exact ⟨by omega, by omega⟩ | omega) | decide | (intro h; exact absurd h (by decide)))) (cwV 4 hts (wd_V wd_783 wd_784 wd_785 wd_5 (wd_c wd_786)) rfl rfl rfl dv_yX7_cutFrom_4 ⟨(om_8728f9b4 n9), (om_05453fa9 n9)⟩) ⟨Pw.fb, recvX7 hK hP (q0 := 0) rfl, fun U hU hW => Pw.to (hP.ms _ hMs) (hD.ms _ hMs) (hK.ms [true, false, false, true, true] rfl) hE hS hFc hU hW⟩ rfl rfl hl.1 rfl (lv_room (Nat.le_of_ble_eq_true rfl)) dX7_hear_260 ⟨Nat.le_of_ble_eq_true rfl, Nat.le_of_ble_eq_true rfl⟩) hS (fun q _ h => hFc q h) hFc (fun r u t H locs ht hvm hw hB hz1 hk1 hS => ?_)
                          refine ex_2_2 hB (fun x_420 f_421 b_x_420 e_x_420_0 hB => ?_)
                          obtain ⟨hP, hD⟩ := Bw.goN (ws' := [(oc7 oM iM_thrown rM_tape iM_taped iM_size iM_at iM_end iM_token iM_whole iM_nameSize iM_fault iM_place iM_trouble rM_letters iM_failed iM_hasCourt rM_r rM_fresh rM_told rM_read rM_st rM_undone rM_kept iM_undos iM_images rM_fresher iM_fresherSize iM_scale iM_night rM_heardRow rM_cutRow x_405 x_420 iM_allBreaths rM_trial rM_words iM_fewestBreaths iM_orderMany iM_orderSum iM_leastOrder rM_often iM_setMany iM_someOf iM_allOf iM_allWeight iM_enoughWeight iM_worthSum iM_firstRest iM_leastDrawn), (arI rM_r kM_r 287 fM_r), (arI rM_told kM_told 90 fM_told), (arI rM_heardRow kM_heardRow 400 f_407), (arI rM_cutRow kM_cutRow 800 f_421), (arI rQ kQ 90 fQ)]) hB rfl ht hP hD _ hMs hk1 hFc rfl
                          clear hz1 hk1 hvm ht hB hMs
                          obtain ⟨x_422, rfl⟩ : ∃ z, z = r := ⟨_, rfl⟩
                          exact wq_i hx hb hr 0 ⟨trivial, trivial⟩ (fun t ht hW => ⟨x_405, x_420, f_407, f_421, b_x_405, b_x_420, (by first | omega | decide | assumption), Bw.to hP hD hK ht hW⟩) hS dX7_hear_263 hlocks
                  · skip
                    have gc_385 := ti_eq c_385 rfl kc_1
                    exfalso; omega
                · skip
                  have gc_384 := ti_eq c_384 rfl kc_3
                  refine lv_iload hx hb dX7_hear_110 (lv_at hl 3 rfl) ?_
                  refine lv_aload_n hx hb dX7_hear_112 rfl (lv_at hl 5 rfl) ?_
                  refine lv_aload_n hx hb dX7_hear_113 rfl (lv_at hl 6 rfl) ?_
                  refine lv_iload hx hb dX7_hear_114 (lv_at hl 0 rfl) ?_
                  refine lv_ldc hx hb hown (hts _ wd_654) dX7_hear_116 ?_
                  refine lv_ldc hx hb hown (hts _ wd_653) dX7_hear_118 ?_
                  have hFc := va_freeI hD hS hA
                  refine va_calli (va_runV (As := [.ref rQ, .int x_383, .int (-100000000), .int 100000000]) (rest := [.int z_371]) ⟨hx, hb, hml, hown, hts⟩ (ih9 _ oM iM_thrown rM_tape iM_taped iM_size iM_at iM_end iM_token iM_whole iM_nameSize iM_fault iM_place iM_trouble rM_letters iM_failed iM_hasCourt rM_r fM_r kM_r rM_fresh rM_told fM_told kM_told rM_read rM_st rM_undone rM_kept iM_undos iM_images rM_fresher iM_fresherSize iM_scale iM_night rM_heardRow f_374 kM_heardRow rM_cutRow f_375 kM_cutRow z_372 z_373 iM_allBreaths rM_trial rM_words iM_fewestBreaths iM_orderMany iM_orderSum iM_leastOrder rM_often iM_setMany iM_someOf iM_allOf iM_allWeight iM_enoughWeight iM_worthSum iM_firstRest iM_leastDrawn rQ fQ kQ x_383 (-100000000) 100000000 b_iM_taped b_iM_size b_iM_end b_iM_failed b_iM_hasCourt b_iM_undos b_iM_images b_iM_scale b_z_372 b_z_373 (by assumption) (by assumption) (by assumption) (by assumption) ⟨wx_383.1, (om_90a71968 hk0.2 wx_383.2)⟩ (by first | assumption | (have q0 := kc_m100000000; have q1 := kc_0; have q2 := kc_1; have q3 := kc_100000000; first | exact ⟨by omega, by omega⟩ | omega) | decide | (intro h; exact absurd h (by decide))) (by first | assumption | (have q0 := kc_m100000000; have q1 := kc_0; have q2 := kc_1; have q3 := kc_100000000; first | exact ⟨by omega, by omega⟩ | omega) | decide | (intro h; exact absurd h (by decide)))) (cwV 4 hts (wd_V wd_779 wd_780 wd_781 wd_5 (wd_c wd_782)) rfl rfl rfl (by decide +kernel) ⟨(om_70783806 n9), (om_db56e044 n9)⟩) ⟨Pw.fb, recvX7 hK hP (q0 := 0) rfl, fun U hU hW => Pw.to hP hD hK hE hS hFc hU hW⟩ rfl rfl hl.1 rfl (lv_room (Nat.le_of_ble_eq_true rfl)) dX7_hear_120 ⟨Nat.le_of_ble_eq_true rfl, Nat.le_of_ble_eq_true rfl⟩) hS (fun q _ h => hFc q h) hFc (fun r u t H locs ht hvm hw hB hz1 hk1 hS => ?_)
                  refine ex_4_3 hB (fun x_423 x_424 f_425 f_426 b_x_423 b_x_424 e_x_423_0 hB => ?_)
                  obtain ⟨hP, hD⟩ := Bw.goA (ws' := [(oc7 oM iM_thrown rM_tape iM_taped iM_size iM_at iM_end iM_token iM_whole iM_nameSize iM_fault iM_place iM_trouble rM_letters iM_failed iM_hasCourt rM_r rM_fresh rM_told rM_read rM_st rM_undone rM_kept iM_undos iM_images rM_fresher iM_fresherSize iM_scale iM_night rM_heardRow rM_cutRow x_423 x_424 iM_allBreaths rM_trial rM_words iM_fewestBreaths iM_orderMany iM_orderSum iM_leastOrder rM_often iM_setMany iM_someOf iM_allOf iM_allWeight iM_enoughWeight iM_worthSum iM_firstRest iM_leastDrawn), (arI rM_r kM_r 287 fM_r), (arI rM_told kM_told 90 fM_told), (arI rM_heardRow kM_heardRow 400 f_425), (arI rM_cutRow kM_cutRow 800 f_426), (arI rQ kQ 90 fQ)]) hB rfl ht hFc rfl
                  clear hz1 hk1 hvm ht hB
                  obtain ⟨x_427, rfl⟩ : ∃ z, z = r := ⟨_, rfl⟩
                  refine lv_aload_n hx hb dX7_hear_123 rfl (lv_at hl 5 rfl) ?_
                  refine lv_iload_n hx hb dX7_hear_124 rfl (lv_at hl 7 rfl) ?_
                  refine lv_iload hx hb dX7_hear_125 (lv_at hl 0 rfl) ?_
                  have hMs := ml_of hD [true, true, true, false, false, false] (wc := [(oc7 oM iM_thrown rM_tape iM_taped iM_size iM_at iM_end iM_token iM_whole iM_nameSize iM_fault iM_place iM_trouble rM_letters iM_failed iM_hasCourt rM_r rM_fresh rM_told rM_read rM_st rM_undone rM_kept iM_undos iM_images rM_fresher iM_fresherSize iM_scale iM_night rM_heardRow rM_cutRow x_423 x_424 iM_allBreaths rM_trial rM_words iM_fewestBreaths iM_orderMany iM_orderSum iM_leastOrder rM_often iM_setMany iM_someOf iM_allOf iM_allWeight iM_enoughWeight iM_worthSum iM_firstRest iM_leastDrawn), (arI rM_r kM_r 287 fM_r), (arI rM_told kM_told 90 fM_told)]) rfl
                  have hFc := va_freeM hD hS hA _ hMs
                  refine va_calli (va_runV (As := [.int p0, .int x_383]) (rest := [.int x_427, .int z_371]) ⟨hx, hb, hml, hown, hts⟩ (tX7_weightOf l dC dI _ oM iM_thrown rM_tape iM_taped iM_size iM_at iM_end iM_token iM_whole iM_nameSize iM_fault iM_place iM_trouble rM_letters iM_failed iM_hasCourt rM_r fM_r kM_r rM_fresh rM_told fM_told kM_told rM_read rM_st rM_undone rM_kept iM_undos iM_images rM_fresher iM_fresherSize iM_scale iM_night rM_heardRow rM_cutRow x_423 x_424 iM_allBreaths rM_trial rM_words iM_fewestBreaths iM_orderMany iM_orderSum iM_leastOrder rM_often iM_setMany iM_someOf iM_allOf iM_allWeight iM_enoughWeight iM_worthSum iM_firstRest iM_leastDrawn p0 x_383 b_iM_taped b_iM_size b_iM_end b_iM_failed b_iM_hasCourt b_iM_undos b_iM_images b_iM_scale b_x_423 b_x_424 (by assumption) (by assumption) (by assumption) ⟨hk0.1, hk0.2⟩) (cwV 2 hts (wd_V wd_587 wd_588 wd_589 wd_5 (wd_c wd_590)) rfl rfl rfl dv_yX7_weightOf_2 ⟨(om_8728f9b4 n9), (om_309dbbdf n9)⟩) ⟨Pw.fb, recvX7 hK hP (q0 := 0) rfl, fun U hU hW => Pw.to (hP.ms _ hMs) (hD.ms _ hMs) (hK.ms [true, true, false, false, false] rfl) hE hS hFc hU hW⟩ rfl rfl hl.1 rfl (lv_room (Nat.le_of_ble_eq_true rfl)) dX7_hear_127 ⟨Nat.le_of_ble_eq_true rfl, Nat.le_of_ble_eq_true rfl⟩) hS (fun q _ h => hFc q h) hFc (fun r u t H locs ht hvm hw hB hz1 hk1 hS => ?_)
                  have hru9 := hw.2
                  have hw := hw.1
                  obtain ⟨hP, hD⟩ := Bw.goN (ws' := [(oc7 oM iM_thrown rM_tape iM_taped iM_size iM_at iM_end iM_token iM_whole iM_nameSize iM_fault iM_place iM_trouble rM_letters iM_failed iM_hasCourt rM_r rM_fresh rM_told rM_read rM_st rM_undone rM_kept iM_undos iM_images rM_fresher iM_fresherSize iM_scale iM_night rM_heardRow rM_cutRow x_423 x_424 iM_allBreaths rM_trial rM_words iM_fewestBreaths iM_orderMany iM_orderSum iM_leastOrder rM_often iM_setMany iM_someOf iM_allOf iM_allWeight iM_enoughWeight iM_worthSum iM_firstRest iM_leastDrawn), (arI rM_r kM_r 287 fM_r), (arI rM_told kM_told 90 fM_told), (arI rM_heardRow kM_heardRow 400 f_425), (arI rM_cutRow kM_cutRow 800 f_426), (arI rQ kQ 90 fQ)]) hB rfl ht hP hD _ hMs hk1 hFc rfl
                  clear hz1 hk1 hvm ht hB hMs
                  obtain ⟨x_428, rfl⟩ : ∃ z, z = r := ⟨_, rfl⟩
                  have ux_428 := hw.2
                  refine lv_imul hx hb dX7_hear_130 ?_
                  refine lv_topi (fun x_429 ex_429 => ?_)
                  refine lv_iadd hx hb dX7_hear_131 ?_
                  refine lv_topi (fun x_430 ex_430 => ?_)
                  refine lv_istore (lv' := [(6, .int x_430), (9, .int x_383), (8, .int z_370), (7, .int x_369), (5, .int x_364), (0, .ref oM), (1, .ref rQ), (2, .int p0), (3, .int p1), (4, .int p2)]) hx hb dX7_hear_132 hl (by decide) rfl (fun ls hl => ?_)
                  refine lv_goto (tgt := 264) hx hb dX7_hear_134 (by decide) ?_
                  obtain ⟨x_431, ex_431⟩ : ∃ z : Int32, z = z_370 + Int32.ofInt 1 := ⟨_, rfl⟩
                  have vx_431 : x_431.toInt = z_370.toInt + 1 := ti_add (y := 1) ex_431 rfl kc_1 (om_4e4fce7e hi0_n_376.1) (om_d6392c09 mn_p0.2 hi0_n_376.2)
                  refine lv_iinc (v := x_431) (lv' := [(8, .int x_431), (6, .int x_430), (9, .int x_383), (7, .int x_369), (5, .int x_364), (0, .ref oM), (1, .ref rQ), (2, .int p0), (3, .int p1), (4, .int p2)]) hx hb dX7_hear_264 hl (k := 2) rfl ex_431.symm (by decide) rfl (fun ls hl => ?_)
                  refine lv_goto (tgt := 87) hx hb dX7_hear_267 (by decide) ?_
                  exact ih_n_376 x_431 x_430 x_423 x_424 f_425 f_426 _ _ _ b_x_423 b_x_424 ⟨(om_83b90de5 hi0_n_376.1 vx_431), (om_1ad1f819 cx_369 gc_377 vx_431)⟩ (by rw [show x_431.toNatClampNeg = z_370.toNatClampNeg + 1 from (by have q_1 := ti_cl (x := x_431) vx_431 (om_9548a8fd hi0_n_376.1); have q_2 := ti_cl (x := z_370) rfl hi0_n_376.1; omega)]; omega) (ms_lt hm_n_376 (om_dd4ae0bc vx_431) (om_6d498008 cx_369 gc_377)) hP hD hS (lv_sub hl [0, 3, 1, 4, 5, 6, 7, 8, 9] rfl)
          exact key_n_376 ((((fM_r (27 + p0.toNatClampNeg)).toInt - (0 : Int32).toInt).toNat) + 1) 0 0 iM_breaths iM_cutMany fM_heardRow fM_cutRow _ _ _ ⟨b_iM_breaths.1, b_iM_breaths.2⟩ ⟨b_iM_cutMany.1, b_iM_cutMany.2⟩ ⟨(om_b1de7dbe kc_0), (om_2dfe280d mn_p0.1 kc_0)⟩ (by first | (have q0 := kc_0; have q1 := kc_1; omega) | decide | assumption) (Nat.lt_add_one _) hP hD hS hl
        · skip
          have gc_367 := ti_eq c_367 rfl kc_1
          refine lv_ldc hx hb hown (hts _ wd_654) dX7_hear_65 ?_
          refine lv_goto (tgt := 71) hx hb dX7_hear_67 (by decide) ?_
          refine lv_istore (lv' := [(6, .int (-100000000)), (5, .int x_364), (0, .ref oM), (1, .ref rQ), (2, .int p0), (3, .int p1), (4, .int p2)]) hx hb dX7_hear_71 hl (by decide) rfl (fun ls hl => ?_)
          refine lv_aload_n hx hb dX7_hear_73 rfl (lv_at hl 2 rfl) ?_
          refine va_get (D := (dC, dI)) (ci := 7) (v := .ref rM_r) (C := RX7) (T := TX7) (N := 48) hx hb hts inX7 hown hK hP 0 rfl rfl 15 (by decide) (hts _ wd_155) (fun _ h9 => h9) rfl dX7_hear_74 ?_
          refine lv_bipush (v := 27) hx hb dX7_hear_77 (by decide) ?_
          refine lv_iload_n hx hb dX7_hear_79 rfl (lv_at hl 4 rfl) ?_
          refine lv_iadd hx hb dX7_hear_80 ?_
          refine lv_topi (fun x_432 ex_432 => ?_)
          have vx_432 : x_432.toInt = p0.toInt + 27 := om_6c48219a (ti_add ex_432 kc_27 rfl (om_edd3f7cf hk0.1) (om_cf6669ce hk0.2 s_nodes.2))
          refine va_iald hx hb hK hP 1 0 rfl rfl (ti_in vx_432 (om_b4b48b7f hk0.1) (om_420abfc6 hk0.2 s_nodes.2)) dX7_hear_81 ?_
          refine lv_topi (fun x_433 ex_433 => ?_)
          have kx_433 : (fM_r x_432.toNatClampNeg).toInt = x_433.toInt := by rw [ex_433]
          have cx_433 : (fM_r (27 + p0.toNatClampNeg)).toInt = x_433.toInt := by rw [show 27 + p0.toNatClampNeg = x_432.toNatClampNeg from (om_779a3124 (ti_cl (x := p0) rfl hk0.1) (ti_cl (x := x_432) vx_432 (om_b4b48b7f hk0.1)))]; exact kx_433
          have sx_433 := r_R.many x_432.toNatClampNeg (om_ab5399c3 (ti_cl (x := x_432) vx_432 (om_b4b48b7f hk0.1)) hk0.1) (om_3b68d876 (ti_cl (x := x_432) vx_432 (om_b4b48b7f hk0.1)) hk0.2 s_nodes.2)
          refine lv_istore (lv' := [(7, .int x_433), (6, .int (-100000000)), (5, .int x_364), (0, .ref oM), (1, .ref rQ), (2, .int p0), (3, .int p1), (4, .int p2)]) hx hb dX7_hear_82 hl (by decide) rfl (fun ls hl => ?_)
          refine lv_iconst (v := 0) hx hb dX7_hear_84 (by decide) ?_
          refine lv_istore (lv' := [(8, .int 0), (7, .int x_433), (6, .int (-100000000)), (5, .int x_364), (0, .ref oM), (1, .ref rQ), (2, .int p0), (3, .int p1), (4, .int p2)]) hx hb dX7_hear_85 hl (by decide) rfl (fun ls hl => ?_)
          have hl := lv_sub hl (l' := [(8, .int 0), (7, .int x_433), (6, .int (-100000000)), (5, .int x_364), (0, .ref oM), (1, .ref rQ), (2, .int p0), (3, .int p1), (4, .int p2)]) [0, 1, 2, 3, 4, 5, 6, 7, 8] rfl
          have key_n_440 : ∀ (n_440 : Nat) (z_434 : Int32) (z_435 : Int32) (z_436 : Int32) (z_437 : Int32) (f_438 : Nat → Int32) (f_439 : Nat → Int32) (H : Heap) (locs : List Loc) (ls : Array Slot), (0 ≤ z_436.toInt ∧ z_436.toInt ≤ 399) → (0 ≤ z_437.toInt ∧ z_437.toInt ≤ 399) → (0 ≤ z_434.toInt ∧ z_434.toInt ≤ (fM_r (27 + p0.toNatClampNeg)).toInt) → (z_436.toInt + z_437.toInt ≤ iM_breaths.toInt + iM_cutMany.toInt + (rsum fM_r fQ p0.toNatClampNeg (z_434.toNatClampNeg) : Int)) → ((fM_r (27 + p0.toNatClampNeg)).toInt - z_434.toInt).toNat < n_440 → va_P (dC, dI) vwCl [(oc7 oM iM_thrown rM_tape iM_taped iM_size iM_at iM_end iM_token iM_whole iM_nameSize iM_fault iM_place iM_trouble rM_letters iM_failed iM_hasCourt rM_r rM_fresh rM_told rM_read rM_st rM_undone rM_kept iM_undos iM_images rM_fresher iM_fresherSize iM_scale iM_night rM_heardRow rM_cutRow z_436 z_437 iM_allBreaths rM_trial rM_words iM_fewestBreaths iM_orderMany iM_orderSum iM_leastOrder rM_often iM_setMany iM_someOf iM_allOf iM_allWeight iM_enoughWeight iM_worthSum iM_firstRest iM_leastDrawn), (arI rM_r kM_r 287 fM_r), (arI rM_told kM_told 90 fM_told), (arI rM_heardRow kM_heardRow 400 f_438), (arI rM_cutRow kM_cutRow 800 f_439), (arI rQ kQ 90 fQ)] H → va_D A [(oc7 oM iM_thrown rM_tape iM_taped iM_size iM_at iM_end iM_token iM_whole iM_nameSize iM_fault iM_place iM_trouble rM_letters iM_failed iM_hasCourt rM_r rM_fresh rM_told rM_read rM_st rM_undone rM_kept iM_undos iM_images rM_fresher iM_fresherSize iM_scale iM_night rM_heardRow rM_cutRow z_436 z_437 iM_allBreaths rM_trial rM_words iM_fewestBreaths iM_orderMany iM_orderSum iM_leastOrder rM_often iM_setMany iM_someOf iM_allOf iM_allWeight iM_enoughWeight iM_worthSum iM_firstRest iM_leastDrawn), (arI rM_r kM_r 287 fM_r), (arI rM_told kM_told 90 fM_told), (arI rM_heardRow kM_heardRow 400 f_438), (arI rM_cutRow kM_cutRow 800 f_439), (arI rQ kQ 90 fQ)] → va_S A s.heap H locs → lv_has ls 11 [(8, .int z_434), (7, .int x_433), (6, .int z_435), (5, .int x_364), (0, .ref oM), (1, .ref rQ), (2, .int p0), (3, .int p1), (4, .int p2)] → W p l e (headSpec (Cond.code yX7_hear cX7_hear 11 (some .int) :: wG) ({ frames := 1 + (n9 + 1), cells := 0, slots := 0, locals := 10 + 30 * (n9 + 1) })).room s m ([.ref oM, .ref rQ, .int p0, .int p1, .int p2] : List Value).toArray below meth c H locs 0 0 (MQ below (va_Qi (fun (r : Int32) (_ : Nat) => True ∧ True) (fun (_ : Nat) (t : State) => ∃ (niM_breaths : Int32) (niM_cutMany : Int32) (nfM_heardRow : Nat → Int32) (nfM_cutRow : Nat → Int32), (0 ≤ niM_breaths.toInt ∧ niM_breaths.toInt ≤ 399) ∧ (0 ≤ niM_cutMany.toInt ∧ niM_cutMany.toInt ≤ 399) ∧ (niM_breaths.toInt + niM_cutMany.toInt ≤ iM_breaths.toInt + iM_cutMany.toInt + (wgt fM_r p0.toNatClampNeg : Int)) ∧ Bw dC dI A [(oc7 oM iM_thrown rM_tape iM_taped iM_size iM_at iM_end iM_token iM_whole iM_nameSize iM_fault iM_place iM_trouble rM_letters iM_failed iM_hasCourt rM_r rM_fresh rM_told rM_read rM_st rM_undone rM_kept iM_undos iM_images rM_fresher iM_fresherSize iM_scale iM_night rM_heardRow rM_cutRow niM_breaths niM_cutMany iM_allBreaths rM_trial rM_words iM_fewestBreaths iM_orderMany iM_orderSum iM_leastOrder rM_often iM_setMany iM_someOf iM_allOf iM_allWeight iM_enoughWeight iM_worthSum iM_firstRest iM_leastDrawn), (arI rM_r kM_r 287 fM_r), (arI rM_told kM_told 90 fM_told), (arI rM_heardRow kM_heardRow 400 nfM_heardRow), (arI rM_cutRow kM_cutRow 800 nfM_cutRow), (arI rQ kQ 90 fQ)] [(kM_r, .int), (kM_told, .int), (kM_heardRow, .int), (kM_cutRow, .int), (kQ, .int)] t) A) ([.ref oM, .ref rQ, .int p0, .int p1, .int p2] : List Value).toArray s 0 0 A) (F0 m 87 ls []) := by
            intro n_440
            induction n_440 with
            | zero => intro z_434 z_435 z_436 z_437 f_438 f_439 H locs ls b_z_436 b_z_437 hi0_n_440 hi1_n_440 hm; exact absurd hm (Nat.not_lt_zero _)
            | succ n_440 ih_n_440 =>
              intro z_434 z_435 z_436 z_437 f_438 f_439 H locs ls b_z_436 b_z_437 hi0_n_440 hi1_n_440 hm_n_440 hP hD hS hl
              have gp_z_434 := rsum_gap r_R r_Q (k := p0.toNatClampNeg) (i := z_434.toNatClampNeg) (m := (fM_r (27 + p0.toNatClampNeg)).toInt.toNat) (by have q_1 := ti_cl (x := p0) rfl hk0.1; omega) (by omega) (by omega) (by have q_2 := ti_cl (x := z_434) rfl (by omega); omega)
              have q_z_434 := ti_cl (x := z_434) rfl (by omega)
              refine lv_iload hx hb dX7_hear_87 (lv_at hl 0 rfl) ?_
              refine lv_iload hx hb dX7_hear_89 (lv_at hl 1 rfl) ?_
              refine lv_icmp_ge (tgt := 270) hx hb dX7_hear_91 (by decide) (fun c_441 => ?_) (fun c_441 => ?_)
              · skip
                have gc_441 := ti_le c_441 rfl rfl
                refine lv_iload hx hb dX7_hear_270 (lv_at hl 3 rfl) ?_
                refine lv_iconst (v := 3) hx hb dX7_hear_272 (by decide) ?_
                refine lv_icmp_ne (tgt := 287) hx hb dX7_hear_273 (by decide) (fun c_442 => ?_) (fun c_442 => ?_)
                · skip
                  have gc_442 := ti_ne c_442 rfl kc_3
                  refine lv_iload hx hb dX7_hear_287 (lv_at hl 2 rfl) ?_
                  exact wq_i hx hb hr 0 ⟨trivial, trivial⟩ (fun t ht hW => ⟨z_436, z_437, f_438, f_439, b_z_436, b_z_437, (by first | omega | decide | assumption), Bw.to hP hD hK ht hW⟩) hS dX7_hear_289 hlocks
                · skip
                  have gc_442 := ti_eq c_442 rfl kc_3
                  exact ((om_3873ea92 gc_367 gc_442)).elim
              · skip
                have gc_441 := ti_nle c_441 rfl rfl
                refine lv_aload_n hx hb dX7_hear_94 rfl (lv_at hl 5 rfl) ?_
                refine lv_iconst (v := 4) hx hb dX7_hear_95 (by decide) ?_
                refine lv_iload_n hx hb dX7_hear_96 rfl (lv_at hl 6 rfl) ?_
                refine lv_imul hx hb dX7_hear_97 ?_
                refine lv_topi (fun x_443 ex_443 => ?_)
                have vx_443 : x_443.toInt = 4 * p0.toInt := ti_mul ex_443 kc_4 rfl (om_56b74365 hk0.1) (om_eac0354e hk0.2 s_nodes.2)
                refine lv_iload hx hb dX7_hear_98 (lv_at hl 0 rfl) ?_
                refine lv_iadd hx hb dX7_hear_100 ?_
                refine lv_topi (fun x_444 ex_444 => ?_)
                have vx_444 : x_444.toInt = 4 * p0.toInt + z_434.toInt := om_5d0caf0f (ti_add ex_444 vx_443 rfl (om_056a216f hk0.1 hi0_n_440.1) (om_da12a7f8 hk0.2 s_nodes.2 mn_p0.2 hi0_n_440.2))
                refine va_iald hx hb hK hP 5 4 rfl rfl (ti_in vx_444 (om_fc2812d4 hk0.1 hi0_n_440.1) (om_01db022b hk0.2 s_nodes.2 mn_p0.2 hi0_n_440.2)) dX7_hear_101 ?_
                refine lv_topi (fun x_445 ex_445 => ?_)
                have kx_445 : (fQ x_444.toNatClampNeg).toInt = x_445.toInt := by rw [ex_445]
                have cx_445 : (fQ (4 * p0.toNatClampNeg + z_434.toNatClampNeg)).toInt = x_445.toInt := by rw [show 4 * p0.toNatClampNeg + z_434.toNatClampNeg = x_444.toNatClampNeg from (om_4de36627 (ti_cl (x := p0) rfl hk0.1) (ti_cl (x := z_434) rfl hi0_n_440.1) (ti_cl (x := x_444) vx_444 (om_fc2812d4 hk0.1 hi0_n_440.1)))]; exact kx_445
                have wx_445 : 0 ≤ x_445.toInt ∧ x_445.toInt < p0.toInt := row_lt r_Q (i := z_434.toNatClampNeg) (ti_cl (x := p0) rfl hk0.1) (ti_cl (x := z_434) rfl hi0_n_440.1) hk0.2 (om_644b432c cx_433 gc_441) (om_24300f0a (ti_cl (x := p0) rfl hk0.1) (ti_cl (x := z_434) rfl hi0_n_440.1)) cx_445
                have pr_x_445 := rsum_at r_R r_Q (k := p0.toNatClampNeg) (i := z_434.toNatClampNeg) (z := x_445) (by have q_1 := ti_cl (x := p0) rfl hk0.1; omega) (by omega) (by have q_1 := ti_cl (x := z_434) rfl hi0_n_440.1; omega) (by have q_3 := cx_445; rw [show 4 * p0.toNatClampNeg + z_434.toNatClampNeg = 4 * p0.toNatClampNeg + z_434.toNatClampNeg from by omega]; omega)
                have q_z_434 := ti_cl (x := z_434) rfl hi0_n_440.1
                refine lv_istore (lv' := [(9, .int x_445), (8, .int z_434), (7, .int x_433), (6, .int z_435), (5, .int x_364), (0, .ref oM), (1, .ref rQ), (2, .int p0), (3, .int p1), (4, .int p2)]) hx hb dX7_hear_102 hl (by decide) rfl (fun ls hl => ?_)
                refine lv_iload hx hb dX7_hear_104 (lv_at hl 4 rfl) ?_
                refine lv_iconst (v := 3) hx hb dX7_hear_106 (by decide) ?_
                refine lv_icmp_ne (tgt := 137) hx hb dX7_hear_107 (by decide) (fun c_446 => ?_) (fun c_446 => ?_)
                · skip
                  have gc_446 := ti_ne c_446 rfl kc_3
                  refine lv_iload hx hb dX7_hear_137 (lv_at hl 4 rfl) ?_
                  refine lv_iconst (v := 1) hx hb dX7_hear_139 (by decide) ?_
                  refine lv_icmp_ne (tgt := 205) hx hb dX7_hear_140 (by decide) (fun c_447 => ?_) (fun c_447 => ?_)
                  · skip
                    have gc_447 := ti_ne c_447 rfl kc_1
                    exact (om_4c66930a gc_447 gc_367).elim
                  · skip
                    have gc_447 := ti_eq c_447 rfl kc_1
                    refine lv_aload_n hx hb dX7_hear_143 rfl (lv_at hl 5 rfl) ?_
                    refine lv_aload_n hx hb dX7_hear_144 rfl (lv_at hl 6 rfl) ?_
                    refine lv_iload hx hb dX7_hear_145 (lv_at hl 0 rfl) ?_
                    refine lv_iload hx hb dX7_hear_147 (lv_at hl 3 rfl) ?_
                    refine lv_iload_n hx hb dX7_hear_149 rfl (lv_at hl 8 rfl) ?_
                    refine lv_icmp_le (tgt := 158) hx hb dX7_hear_150 (by decide) (fun c_448 => ?_) (fun c_448 => ?_)
                    · skip
                      have gc_448 := ti_le c_448 rfl rfl
                      refine lv_iload_n hx hb dX7_hear_158 rfl (lv_at hl 8 rfl) ?_
                      refine lv_iload hx hb dX7_hear_159 (lv_at hl 9 rfl) ?_
                      have hFc := va_freeI hD hS hA
                      refine va_calli (va_runV (As := [.ref rQ, .int x_445, .int p1, .int p2]) (rest := []) ⟨hx, hb, hml, hown, hts⟩ (ih9 _ oM iM_thrown rM_tape iM_taped iM_size iM_at iM_end iM_token iM_whole iM_nameSize iM_fault iM_place iM_trouble rM_letters iM_failed iM_hasCourt rM_r fM_r kM_r rM_fresh rM_told fM_told kM_told rM_read rM_st rM_undone rM_kept iM_undos iM_images rM_fresher iM_fresherSize iM_scale iM_night rM_heardRow f_438 kM_heardRow rM_cutRow f_439 kM_cutRow z_436 z_437 iM_allBreaths rM_trial rM_words iM_fewestBreaths iM_orderMany iM_orderSum iM_leastOrder rM_often iM_setMany iM_someOf iM_allOf iM_allWeight iM_enoughWeight iM_worthSum iM_firstRest iM_leastDrawn rQ fQ kQ x_445 p1 p2 b_iM_taped b_iM_size b_iM_end b_iM_failed b_iM_hasCourt b_iM_undos b_iM_images b_iM_scale b_z_436 b_z_437 (by assumption) (by assumption) (by assumption) (by assumption) ⟨wx_445.1, (om_90a71968 hk0.2 wx_445.2)⟩ (by first | assumption | (have q0 := kc_0; have q1 := kc_1; first | exact ⟨by omega, by omega⟩ | omega) | decide | (intro h; exact absurd h (by decide))) (by first | assumption | (have q0 := kc_0; have q1 := kc_1; first | exact ⟨by omega, by omega⟩ | omega) | decide | (intro h; exact absurd h (by decide)))) (cwV 4 hts (wd_V wd_779 wd_780 wd_781 wd_5 (wd_c wd_782)) rfl rfl rfl (by decide +kernel) ⟨(om_70783806 n9), (om_db56e044 n9)⟩) ⟨Pw.fb, recvX7 hK hP (q0 := 0) rfl, fun U hU hW => Pw.to hP hD hK hE hS hFc hU hW⟩ rfl rfl hl.1 rfl (lv_room (Nat.le_of_ble_eq_true rfl)) dX7_hear_161 ⟨Nat.le_of_ble_eq_true rfl, Nat.le_of_ble_eq_true rfl⟩) hS (fun q _ h => hFc q h) hFc (fun r u t H locs ht hvm hw hB hz1 hk1 hS => ?_)
                      refine ex_4_3 hB (fun x_449 x_450 f_451 f_452 b_x_449 b_x_450 e_x_449_0 hB => ?_)
                      obtain ⟨hP, hD⟩ := Bw.goA (ws' := [(oc7 oM iM_thrown rM_tape iM_taped iM_size iM_at iM_end iM_token iM_whole iM_nameSize iM_fault iM_place iM_trouble rM_letters iM_failed iM_hasCourt rM_r rM_fresh rM_told rM_read rM_st rM_undone rM_kept iM_undos iM_images rM_fresher iM_fresherSize iM_scale iM_night rM_heardRow rM_cutRow x_449 x_450 iM_allBreaths rM_trial rM_words iM_fewestBreaths iM_orderMany iM_orderSum iM_leastOrder rM_often iM_setMany iM_someOf iM_allOf iM_allWeight iM_enoughWeight iM_worthSum iM_firstRest iM_leastDrawn), (arI rM_r kM_r 287 fM_r), (arI rM_told kM_told 90 fM_told), (arI rM_heardRow kM_heardRow 400 f_451), (arI rM_cutRow kM_cutRow 800 f_452), (arI rQ kQ 90 fQ)]) hB rfl ht hFc rfl
                      clear hz1 hk1 hvm ht hB
                      obtain ⟨x_453, rfl⟩ : ∃ z, z = r := ⟨_, rfl⟩
                      refine lv_istore (lv' := [(10, .int x_453), (9, .int x_445), (8, .int z_434), (7, .int x_433), (6, .int z_435), (5, .int x_364), (0, .ref oM), (1, .ref rQ), (2, .int p0), (3, .int p1), (4, .int p2)]) hx hb dX7_hear_164 hl (by decide) rfl (fun ls hl => ?_)
                      refine lv_iload hx hb dX7_hear_166 (lv_at hl 0 rfl) ?_
                      refine lv_iload hx hb dX7_hear_168 (lv_at hl 4 rfl) ?_
                      refine lv_icmp_le (tgt := 178) hx hb dX7_hear_170 (by decide) (fun c_454 => ?_) (fun c_454 => ?_)
                      · skip
                        have gc_454 := ti_le c_454 rfl rfl
                        refine lv_iload hx hb dX7_hear_178 (lv_at hl 4 rfl) ?_
                        refine lv_istore (lv' := [(6, .int z_435), (10, .int x_453), (9, .int x_445), (8, .int z_434), (7, .int x_433), (5, .int x_364), (0, .ref oM), (1, .ref rQ), (2, .int p0), (3, .int p1), (4, .int p2)]) hx hb dX7_hear_180 hl (by decide) rfl (fun ls hl => ?_)
                        refine lv_iload hx hb dX7_hear_182 (lv_at hl 0 rfl) ?_
                        refine lv_iload hx hb dX7_hear_184 (lv_at hl 10 rfl) ?_
                        refine lv_icmp_lt (tgt := 202) hx hb dX7_hear_186 (by decide) (fun c_455 => ?_) (fun c_455 => ?_)
                        · skip
                          have gc_455 := ti_lt c_455 rfl rfl
                          refine lv_goto (tgt := 264) hx hb dX7_hear_202 (by decide) ?_
                          obtain ⟨x_456, ex_456⟩ : ∃ z : Int32, z = z_434 + Int32.ofInt 1 := ⟨_, rfl⟩
                          have vx_456 : x_456.toInt = z_434.toInt + 1 := ti_add (y := 1) ex_456 rfl kc_1 (om_4e4fce7e hi0_n_440.1) (om_d6392c09 mn_p0.2 hi0_n_440.2)
                          refine lv_iinc (v := x_456) (lv' := [(8, .int x_456), (6, .int z_435), (10, .int x_453), (9, .int x_445), (7, .int x_433), (5, .int x_364), (0, .ref oM), (1, .ref rQ), (2, .int p0), (3, .int p1), (4, .int p2)]) hx hb dX7_hear_264 hl (k := 3) rfl ex_456.symm (by decide) rfl (fun ls hl => ?_)
                          refine lv_goto (tgt := 87) hx hb dX7_hear_267 (by decide) ?_
                          exact ih_n_440 x_456 z_435 x_449 x_450 f_451 f_452 _ _ _ b_x_449 b_x_450 ⟨(om_83b90de5 hi0_n_440.1 vx_456), (om_1ad1f819 cx_433 gc_441 vx_456)⟩ (by rw [show x_456.toNatClampNeg = z_434.toNatClampNeg + 1 from (by have q_1 := ti_cl (x := x_456) vx_456 (om_9548a8fd hi0_n_440.1); have q_2 := ti_cl (x := z_434) rfl hi0_n_440.1; omega)]; omega) (ms_lt hm_n_440 (om_dd4ae0bc vx_456) (om_6d498008 cx_433 gc_441)) hP hD hS (lv_sub hl [0, 4, 1, 5, 6, 7, 8, 9, 10] rfl)
                        · skip
                          have gc_455 := ti_nlt c_455 rfl rfl
                          refine lv_aload_n hx hb dX7_hear_189 rfl (lv_at hl 6 rfl) ?_
                          refine lv_aload_n hx hb dX7_hear_190 rfl (lv_at hl 7 rfl) ?_
                          refine lv_iload_n hx hb dX7_hear_191 rfl (lv_at hl 8 rfl) ?_
                          refine lv_iload hx hb dX7_hear_192 (lv_at hl 3 rfl) ?_
                          refine lv_iconst (v := 1) hx hb dX7_hear_194 (by decide) ?_
                          refine lv_iadd hx hb dX7_hear_195 ?_
                          refine lv_topi (fun x_457 ex_457 => ?_)
                          have vx_457 : x_457.toInt = z_434.toInt + 1 := ti_add ex_457 rfl kc_1 (om_4e4fce7e hi0_n_440.1) (om_d6392c09 mn_p0.2 hi0_n_440.2)
                          refine lv_iload hx hb dX7_hear_196 (lv_at hl 0 rfl) ?_
                          have hMs := ml_of hD [true, true, false, false, true, true] (wc := [(oc7 oM iM_thrown rM_tape iM_taped iM_size iM_at iM_end iM_token iM_whole iM_nameSize iM_fault iM_place iM_trouble rM_letters iM_failed iM_hasCourt rM_r rM_fresh rM_told rM_read rM_st rM_undone rM_kept iM_undos iM_images rM_fresher iM_fresherSize iM_scale iM_night rM_heardRow rM_cutRow x_449 x_450 iM_allBreaths rM_trial rM_words iM_fewestBreaths iM_orderMany iM_orderSum iM_leastOrder rM_often iM_setMany iM_someOf iM_allOf iM_allWeight iM_enoughWeight iM_worthSum iM_firstRest iM_leastDrawn), (arI rM_r kM_r 287 fM_r), (arI rM_cutRow kM_cutRow 800 f_452), (arI rQ kQ 90 fQ)]) rfl
                          have hFc := va_freeM hD hS hA _ hMs
                          refine va_calli (va_runV (As := [.ref rQ, .int p0, .int x_457, .int z_435]) (rest := []) ⟨hx, hb, hml, hown, hts⟩ (tX7_cutFrom l dC dI _ oM iM_thrown rM_tape iM_taped iM_size iM_at iM_end iM_token iM_whole iM_nameSize iM_fault iM_place iM_trouble rM_letters iM_failed iM_hasCourt rM_r fM_r kM_r rM_fresh rM_told rM_read rM_st rM_undone rM_kept iM_undos iM_images rM_fresher iM_fresherSize iM_scale iM_night rM_heardRow rM_cutRow f_452 kM_cutRow x_449 x_450 iM_allBreaths rM_trial rM_words iM_fewestBreaths iM_orderMany iM_orderSum iM_leastOrder rM_often iM_setMany iM_someOf iM_allOf iM_allWeight iM_enoughWeight iM_worthSum iM_firstRest iM_leastDrawn rQ fQ kQ p0 x_457 z_435 b_iM_taped b_iM_size b_iM_end b_iM_failed b_iM_hasCourt b_iM_undos b_iM_images b_iM_scale b_x_449 b_x_450 (by assumption) (by assumption) (by assumption) ⟨hk0.1, hk0.2⟩ ⟨(om_83b90de5 hi0_n_440.1 vx_457), (om_1ad1f819 cx_433 gc_441 vx_457)⟩ (by first | assumption | (have q0 := kc_0; have q1 := kc_1; first | exact ⟨by omega, by omega⟩ | omega) | decide | (intro h; exact absurd h (by decide)))) (cwV 4 hts (wd_V wd_783 wd_784 wd_785 wd_5 (wd_c wd_786)) rfl rfl rfl dv_yX7_cutFrom_4 ⟨(om_8728f9b4 n9), (om_05453fa9 n9)⟩) ⟨Pw.fb, recvX7 hK hP (q0 := 0) rfl, fun U hU hW => Pw.to (hP.ms _ hMs) (hD.ms _ hMs) (hK.ms [true, false, false, true, true] rfl) hE hS hFc hU hW⟩ rfl rfl hl.1 rfl (lv_room (Nat.le_of_ble_eq_true rfl)) dX7_hear_198 ⟨Nat.le_of_ble_eq_true rfl, Nat.le_of_ble_eq_true rfl⟩) hS (fun q _ h => hFc q h) hFc (fun r u t H locs ht hvm hw hB hz1 hk1 hS => ?_)
                          refine ex_2_2 hB (fun x_458 f_459 b_x_458 e_x_458_0 hB => ?_)
                          obtain ⟨hP, hD⟩ := Bw.goN (ws' := [(oc7 oM iM_thrown rM_tape iM_taped iM_size iM_at iM_end iM_token iM_whole iM_nameSize iM_fault iM_place iM_trouble rM_letters iM_failed iM_hasCourt rM_r rM_fresh rM_told rM_read rM_st rM_undone rM_kept iM_undos iM_images rM_fresher iM_fresherSize iM_scale iM_night rM_heardRow rM_cutRow x_449 x_458 iM_allBreaths rM_trial rM_words iM_fewestBreaths iM_orderMany iM_orderSum iM_leastOrder rM_often iM_setMany iM_someOf iM_allOf iM_allWeight iM_enoughWeight iM_worthSum iM_firstRest iM_leastDrawn), (arI rM_r kM_r 287 fM_r), (arI rM_told kM_told 90 fM_told), (arI rM_heardRow kM_heardRow 400 f_451), (arI rM_cutRow kM_cutRow 800 f_459), (arI rQ kQ 90 fQ)]) hB rfl ht hP hD _ hMs hk1 hFc rfl
                          clear hz1 hk1 hvm ht hB hMs
                          obtain ⟨x_460, rfl⟩ : ∃ z, z = r := ⟨_, rfl⟩
                          exact wq_i hx hb hr 0 ⟨trivial, trivial⟩ (fun t ht hW => ⟨x_449, x_458, f_451, f_459, b_x_449, b_x_458, (by first | omega | decide | assumption), Bw.to hP hD hK ht hW⟩) hS dX7_hear_201 hlocks
                      · skip
                        have gc_454 := ti_nle c_454 rfl rfl
                        refine lv_iload hx hb dX7_hear_173 (lv_at hl 0 rfl) ?_
                        refine lv_goto (tgt := 180) hx hb dX7_hear_175 (by decide) ?_
                        refine lv_istore (lv' := [(6, .int x_453), (10, .int x_453), (9, .int x_445), (8, .int z_434), (7, .int x_433), (5, .int x_364), (0, .ref oM), (1, .ref rQ), (2, .int p0), (3, .int p1), (4, .int p2)]) hx hb dX7_hear_180 hl (by decide) rfl (fun ls hl => ?_)
                        refine lv_iload hx hb dX7_hear_182 (lv_at hl 0 rfl) ?_
                        refine lv_iload hx hb dX7_hear_184 (lv_at hl 10 rfl) ?_
                        refine lv_icmp_lt (tgt := 202) hx hb dX7_hear_186 (by decide) (fun c_461 => ?_) (fun c_461 => ?_)
                        · skip
                          have gc_461 := ti_lt c_461 rfl rfl
                          refine lv_goto (tgt := 264) hx hb dX7_hear_202 (by decide) ?_
                          obtain ⟨x_462, ex_462⟩ : ∃ z : Int32, z = z_434 + Int32.ofInt 1 := ⟨_, rfl⟩
                          have vx_462 : x_462.toInt = z_434.toInt + 1 := ti_add (y := 1) ex_462 rfl kc_1 (om_4e4fce7e hi0_n_440.1) (om_d6392c09 mn_p0.2 hi0_n_440.2)
                          refine lv_iinc (v := x_462) (lv' := [(8, .int x_462), (6, .int x_453), (10, .int x_453), (9, .int x_445), (7, .int x_433), (5, .int x_364), (0, .ref oM), (1, .ref rQ), (2, .int p0), (3, .int p1), (4, .int p2)]) hx hb dX7_hear_264 hl (k := 3) rfl ex_462.symm (by decide) rfl (fun ls hl => ?_)
                          refine lv_goto (tgt := 87) hx hb dX7_hear_267 (by decide) ?_
                          exact ih_n_440 x_462 x_453 x_449 x_450 f_451 f_452 _ _ _ b_x_449 b_x_450 ⟨(om_83b90de5 hi0_n_440.1 vx_462), (om_1ad1f819 cx_433 gc_441 vx_462)⟩ (by rw [show x_462.toNatClampNeg = z_434.toNatClampNeg + 1 from (by have q_1 := ti_cl (x := x_462) vx_462 (om_9548a8fd hi0_n_440.1); have q_2 := ti_cl (x := z_434) rfl hi0_n_440.1; omega)]; omega) (ms_lt hm_n_440 (om_dd4ae0bc vx_462) (om_6d498008 cx_433 gc_441)) hP hD hS (lv_sub hl [0, 4, 1, 5, 6, 7, 8, 9, 10] rfl)
                        · skip
                          have gc_461 := ti_nlt c_461 rfl rfl
                          refine lv_aload_n hx hb dX7_hear_189 rfl (lv_at hl 6 rfl) ?_
                          refine lv_aload_n hx hb dX7_hear_190 rfl (lv_at hl 7 rfl) ?_
                          refine lv_iload_n hx hb dX7_hear_191 rfl (lv_at hl 8 rfl) ?_
                          refine lv_iload hx hb dX7_hear_192 (lv_at hl 3 rfl) ?_
                          refine lv_iconst (v := 1) hx hb dX7_hear_194 (by decide) ?_
                          refine lv_iadd hx hb dX7_hear_195 ?_
                          refine lv_topi (fun x_463 ex_463 => ?_)
                          have vx_463 : x_463.toInt = z_434.toInt + 1 := ti_add ex_463 rfl kc_1 (om_4e4fce7e hi0_n_440.1) (om_d6392c09 mn_p0.2 hi0_n_440.2)
                          refine lv_iload hx hb dX7_hear_196 (lv_at hl 0 rfl) ?_
                          have hMs := ml_of hD [true, true, false, false, true, true] (wc := [(oc7 oM iM_thrown rM_tape iM_taped iM_size iM_at iM_end iM_token iM_whole iM_nameSize iM_fault iM_place iM_trouble rM_letters iM_failed iM_hasCourt rM_r rM_fresh rM_told rM_read rM_st rM_undone rM_kept iM_undos iM_images rM_fresher iM_fresherSize iM_scale iM_night rM_heardRow rM_cutRow x_449 x_450 iM_allBreaths rM_trial rM_words iM_fewestBreaths iM_orderMany iM_orderSum iM_leastOrder rM_often iM_setMany iM_someOf iM_allOf iM_allWeight iM_enoughWeight iM_worthSum iM_firstRest iM_leastDrawn), (arI rM_r kM_r 287 fM_r), (arI rM_cutRow kM_cutRow 800 f_452), (arI rQ kQ 90 fQ)]) rfl
                          have hFc := va_freeM hD hS hA _ hMs
                          refine va_calli (va_runV (As := [.ref rQ, .int p0, .int x_463, .int x_453]) (rest := []) ⟨hx, hb, hml, hown, hts⟩ (tX7_cutFrom l dC dI _ oM iM_thrown rM_tape iM_taped iM_size iM_at iM_end iM_token iM_whole iM_nameSize iM_fault iM_place iM_trouble rM_letters iM_failed iM_hasCourt rM_r fM_r kM_r rM_fresh rM_told rM_read rM_st rM_undone rM_kept iM_undos iM_images rM_fresher iM_fresherSize iM_scale iM_night rM_heardRow rM_cutRow f_452 kM_cutRow x_449 x_450 iM_allBreaths rM_trial rM_words iM_fewestBreaths iM_orderMany iM_orderSum iM_leastOrder rM_often iM_setMany iM_someOf iM_allOf iM_allWeight iM_enoughWeight iM_worthSum iM_firstRest iM_leastDrawn rQ fQ kQ p0 x_463 x_453 b_iM_taped b_iM_size b_iM_end b_iM_failed b_iM_hasCourt b_iM_undos b_iM_images b_iM_scale b_x_449 b_x_450 (by assumption) (by assumption) (by assumption) ⟨hk0.1, hk0.2⟩ ⟨(om_83b90de5 hi0_n_440.1 vx_463), (om_1ad1f819 cx_433 gc_441 vx_463)⟩ (by first | assumption | (have q0 := kc_0; have q1 := kc_1; first | exact ⟨by omega, by omega⟩ | omega) | decide | (intro h; exact absurd h (by decide)))) (cwV 4 hts (wd_V wd_783 wd_784 wd_785 wd_5 (wd_c wd_786)) rfl rfl rfl dv_yX7_cutFrom_4 ⟨(om_8728f9b4 n9), (om_05453fa9 n9)⟩) ⟨Pw.fb, recvX7 hK hP (q0 := 0) rfl, fun U hU hW => Pw.to (hP.ms _ hMs) (hD.ms _ hMs) (hK.ms [true, false, false, true, true] rfl) hE hS hFc hU hW⟩ rfl rfl hl.1 rfl (lv_room (Nat.le_of_ble_eq_true rfl)) dX7_hear_198 ⟨Nat.le_of_ble_eq_true rfl, Nat.le_of_ble_eq_true rfl⟩) hS (fun q _ h => hFc q h) hFc (fun r u t H locs ht hvm hw hB hz1 hk1 hS => ?_)
                          refine ex_2_2 hB (fun x_464 f_465 b_x_464 e_x_464_0 hB => ?_)
                          obtain ⟨hP, hD⟩ := Bw.goN (ws' := [(oc7 oM iM_thrown rM_tape iM_taped iM_size iM_at iM_end iM_token iM_whole iM_nameSize iM_fault iM_place iM_trouble rM_letters iM_failed iM_hasCourt rM_r rM_fresh rM_told rM_read rM_st rM_undone rM_kept iM_undos iM_images rM_fresher iM_fresherSize iM_scale iM_night rM_heardRow rM_cutRow x_449 x_464 iM_allBreaths rM_trial rM_words iM_fewestBreaths iM_orderMany iM_orderSum iM_leastOrder rM_often iM_setMany iM_someOf iM_allOf iM_allWeight iM_enoughWeight iM_worthSum iM_firstRest iM_leastDrawn), (arI rM_r kM_r 287 fM_r), (arI rM_told kM_told 90 fM_told), (arI rM_heardRow kM_heardRow 400 f_451), (arI rM_cutRow kM_cutRow 800 f_465), (arI rQ kQ 90 fQ)]) hB rfl ht hP hD _ hMs hk1 hFc rfl
                          clear hz1 hk1 hvm ht hB hMs
                          obtain ⟨x_466, rfl⟩ : ∃ z, z = r := ⟨_, rfl⟩
                          exact wq_i hx hb hr 0 ⟨trivial, trivial⟩ (fun t ht hW => ⟨x_449, x_464, f_451, f_465, b_x_449, b_x_464, (by first | omega | decide | assumption), Bw.to hP hD hK ht hW⟩) hS dX7_hear_201 hlocks
                    · skip
                      have gc_448 := ti_nle c_448 rfl rfl
                      refine lv_iload hx hb dX7_hear_153 (lv_at hl 3 rfl) ?_
                      refine lv_goto (tgt := 159) hx hb dX7_hear_155 (by decide) ?_
                      refine lv_iload hx hb dX7_hear_159 (lv_at hl 9 rfl) ?_
                      have hFc := va_freeI hD hS hA
                      refine va_calli (va_runV (As := [.ref rQ, .int x_445, .int z_435, .int p2]) (rest := []) ⟨hx, hb, hml, hown, hts⟩ (ih9 _ oM iM_thrown rM_tape iM_taped iM_size iM_at iM_end iM_token iM_whole iM_nameSize iM_fault iM_place iM_trouble rM_letters iM_failed iM_hasCourt rM_r fM_r kM_r rM_fresh rM_told fM_told kM_told rM_read rM_st rM_undone rM_kept iM_undos iM_images rM_fresher iM_fresherSize iM_scale iM_night rM_heardRow f_438 kM_heardRow rM_cutRow f_439 kM_cutRow z_436 z_437 iM_allBreaths rM_trial rM_words iM_fewestBreaths iM_orderMany iM_orderSum iM_leastOrder rM_often iM_setMany iM_someOf iM_allOf iM_allWeight iM_enoughWeight iM_worthSum iM_firstRest iM_leastDrawn rQ fQ kQ x_445 z_435 p2 b_iM_taped b_iM_size b_iM_end b_iM_failed b_iM_hasCourt b_iM_undos b_iM_images b_iM_scale b_z_436 b_z_437 (by assumption) (by assumption) (by assumption) (by assumption) ⟨wx_445.1, (om_90a71968 hk0.2 wx_445.2)⟩ (by first | assumption | (have q0 := kc_0; have q1 := kc_1; first | exact ⟨by omega, by omega⟩ | omega) | decide | (intro h; exact absurd h (by decide))) (by first | assumption | (have q0 := kc_0; have q1 := kc_1; first | exact ⟨by omega, by omega⟩ | omega) | decide | (intro h; exact absurd h (by decide)))) (cwV 4 hts (wd_V wd_779 wd_780 wd_781 wd_5 (wd_c wd_782)) rfl rfl rfl (by decide +kernel) ⟨(om_70783806 n9), (om_db56e044 n9)⟩) ⟨Pw.fb, recvX7 hK hP (q0 := 0) rfl, fun U hU hW => Pw.to hP hD hK hE hS hFc hU hW⟩ rfl rfl hl.1 rfl (lv_room (Nat.le_of_ble_eq_true rfl)) dX7_hear_161 ⟨Nat.le_of_ble_eq_true rfl, Nat.le_of_ble_eq_true rfl⟩) hS (fun q _ h => hFc q h) hFc (fun r u t H locs ht hvm hw hB hz1 hk1 hS => ?_)
                      refine ex_4_3 hB (fun x_467 x_468 f_469 f_470 b_x_467 b_x_468 e_x_467_0 hB => ?_)
                      obtain ⟨hP, hD⟩ := Bw.goA (ws' := [(oc7 oM iM_thrown rM_tape iM_taped iM_size iM_at iM_end iM_token iM_whole iM_nameSize iM_fault iM_place iM_trouble rM_letters iM_failed iM_hasCourt rM_r rM_fresh rM_told rM_read rM_st rM_undone rM_kept iM_undos iM_images rM_fresher iM_fresherSize iM_scale iM_night rM_heardRow rM_cutRow x_467 x_468 iM_allBreaths rM_trial rM_words iM_fewestBreaths iM_orderMany iM_orderSum iM_leastOrder rM_often iM_setMany iM_someOf iM_allOf iM_allWeight iM_enoughWeight iM_worthSum iM_firstRest iM_leastDrawn), (arI rM_r kM_r 287 fM_r), (arI rM_told kM_told 90 fM_told), (arI rM_heardRow kM_heardRow 400 f_469), (arI rM_cutRow kM_cutRow 800 f_470), (arI rQ kQ 90 fQ)]) hB rfl ht hFc rfl
                      clear hz1 hk1 hvm ht hB
                      obtain ⟨x_471, rfl⟩ : ∃ z, z = r := ⟨_, rfl⟩
                      refine lv_istore (lv' := [(10, .int x_471), (9, .int x_445), (8, .int z_434), (7, .int x_433), (6, .int z_435), (5, .int x_364), (0, .ref oM), (1, .ref rQ), (2, .int p0), (3, .int p1), (4, .int p2)]) hx hb dX7_hear_164 hl (by decide) rfl (fun ls hl => ?_)
                      refine lv_iload hx hb dX7_hear_166 (lv_at hl 0 rfl) ?_
                      refine lv_iload hx hb dX7_hear_168 (lv_at hl 4 rfl) ?_
                      refine lv_icmp_le (tgt := 178) hx hb dX7_hear_170 (by decide) (fun c_472 => ?_) (fun c_472 => ?_)
                      · skip
                        have gc_472 := ti_le c_472 rfl rfl
                        refine lv_iload hx hb dX7_hear_178 (lv_at hl 4 rfl) ?_
                        refine lv_istore (lv' := [(6, .int z_435), (10, .int x_471), (9, .int x_445), (8, .int z_434), (7, .int x_433), (5, .int x_364), (0, .ref oM), (1, .ref rQ), (2, .int p0), (3, .int p1), (4, .int p2)]) hx hb dX7_hear_180 hl (by decide) rfl (fun ls hl => ?_)
                        refine lv_iload hx hb dX7_hear_182 (lv_at hl 0 rfl) ?_
                        refine lv_iload hx hb dX7_hear_184 (lv_at hl 10 rfl) ?_
                        refine lv_icmp_lt (tgt := 202) hx hb dX7_hear_186 (by decide) (fun c_473 => ?_) (fun c_473 => ?_)
                        · skip
                          have gc_473 := ti_lt c_473 rfl rfl
                          refine lv_goto (tgt := 264) hx hb dX7_hear_202 (by decide) ?_
                          obtain ⟨x_474, ex_474⟩ : ∃ z : Int32, z = z_434 + Int32.ofInt 1 := ⟨_, rfl⟩
                          have vx_474 : x_474.toInt = z_434.toInt + 1 := ti_add (y := 1) ex_474 rfl kc_1 (om_4e4fce7e hi0_n_440.1) (om_d6392c09 mn_p0.2 hi0_n_440.2)
                          refine lv_iinc (v := x_474) (lv' := [(8, .int x_474), (6, .int z_435), (10, .int x_471), (9, .int x_445), (7, .int x_433), (5, .int x_364), (0, .ref oM), (1, .ref rQ), (2, .int p0), (3, .int p1), (4, .int p2)]) hx hb dX7_hear_264 hl (k := 3) rfl ex_474.symm (by decide) rfl (fun ls hl => ?_)
                          refine lv_goto (tgt := 87) hx hb dX7_hear_267 (by decide) ?_
                          exact ih_n_440 x_474 z_435 x_467 x_468 f_469 f_470 _ _ _ b_x_467 b_x_468 ⟨(om_83b90de5 hi0_n_440.1 vx_474), (om_1ad1f819 cx_433 gc_441 vx_474)⟩ (by rw [show x_474.toNatClampNeg = z_434.toNatClampNeg + 1 from (by have q_1 := ti_cl (x := x_474) vx_474 (om_9548a8fd hi0_n_440.1); have q_2 := ti_cl (x := z_434) rfl hi0_n_440.1; omega)]; omega) (ms_lt hm_n_440 (om_dd4ae0bc vx_474) (om_6d498008 cx_433 gc_441)) hP hD hS (lv_sub hl [0, 4, 1, 5, 6, 7, 8, 9, 10] rfl)
                        · skip
                          have gc_473 := ti_nlt c_473 rfl rfl
                          refine lv_aload_n hx hb dX7_hear_189 rfl (lv_at hl 6 rfl) ?_
                          refine lv_aload_n hx hb dX7_hear_190 rfl (lv_at hl 7 rfl) ?_
                          refine lv_iload_n hx hb dX7_hear_191 rfl (lv_at hl 8 rfl) ?_
                          refine lv_iload hx hb dX7_hear_192 (lv_at hl 3 rfl) ?_
                          refine lv_iconst (v := 1) hx hb dX7_hear_194 (by decide) ?_
                          refine lv_iadd hx hb dX7_hear_195 ?_
                          refine lv_topi (fun x_475 ex_475 => ?_)
                          have vx_475 : x_475.toInt = z_434.toInt + 1 := ti_add ex_475 rfl kc_1 (om_4e4fce7e hi0_n_440.1) (om_d6392c09 mn_p0.2 hi0_n_440.2)
                          refine lv_iload hx hb dX7_hear_196 (lv_at hl 0 rfl) ?_
                          have hMs := ml_of hD [true, true, false, false, true, true] (wc := [(oc7 oM iM_thrown rM_tape iM_taped iM_size iM_at iM_end iM_token iM_whole iM_nameSize iM_fault iM_place iM_trouble rM_letters iM_failed iM_hasCourt rM_r rM_fresh rM_told rM_read rM_st rM_undone rM_kept iM_undos iM_images rM_fresher iM_fresherSize iM_scale iM_night rM_heardRow rM_cutRow x_467 x_468 iM_allBreaths rM_trial rM_words iM_fewestBreaths iM_orderMany iM_orderSum iM_leastOrder rM_often iM_setMany iM_someOf iM_allOf iM_allWeight iM_enoughWeight iM_worthSum iM_firstRest iM_leastDrawn), (arI rM_r kM_r 287 fM_r), (arI rM_cutRow kM_cutRow 800 f_470), (arI rQ kQ 90 fQ)]) rfl
                          have hFc := va_freeM hD hS hA _ hMs
                          refine va_calli (va_runV (As := [.ref rQ, .int p0, .int x_475, .int z_435]) (rest := []) ⟨hx, hb, hml, hown, hts⟩ (tX7_cutFrom l dC dI _ oM iM_thrown rM_tape iM_taped iM_size iM_at iM_end iM_token iM_whole iM_nameSize iM_fault iM_place iM_trouble rM_letters iM_failed iM_hasCourt rM_r fM_r kM_r rM_fresh rM_told rM_read rM_st rM_undone rM_kept iM_undos iM_images rM_fresher iM_fresherSize iM_scale iM_night rM_heardRow rM_cutRow f_470 kM_cutRow x_467 x_468 iM_allBreaths rM_trial rM_words iM_fewestBreaths iM_orderMany iM_orderSum iM_leastOrder rM_often iM_setMany iM_someOf iM_allOf iM_allWeight iM_enoughWeight iM_worthSum iM_firstRest iM_leastDrawn rQ fQ kQ p0 x_475 z_435 b_iM_taped b_iM_size b_iM_end b_iM_failed b_iM_hasCourt b_iM_undos b_iM_images b_iM_scale b_x_467 b_x_468 (by assumption) (by assumption) (by assumption) ⟨hk0.1, hk0.2⟩ ⟨(om_83b90de5 hi0_n_440.1 vx_475), (om_1ad1f819 cx_433 gc_441 vx_475)⟩ (by first | assumption | (have q0 := kc_0; have q1 := kc_1; first | exact ⟨by omega, by omega⟩ | omega) | decide | (intro h; exact absurd h (by decide)))) (cwV 4 hts (wd_V wd_783 wd_784 wd_785 wd_5 (wd_c wd_786)) rfl rfl rfl dv_yX7_cutFrom_4 ⟨(om_8728f9b4 n9), (om_05453fa9 n9)⟩) ⟨Pw.fb, recvX7 hK hP (q0 := 0) rfl, fun U hU hW => Pw.to (hP.ms _ hMs) (hD.ms _ hMs) (hK.ms [true, false, false, true, true] rfl) hE hS hFc hU hW⟩ rfl rfl hl.1 rfl (lv_room (Nat.le_of_ble_eq_true rfl)) dX7_hear_198 ⟨Nat.le_of_ble_eq_true rfl, Nat.le_of_ble_eq_true rfl⟩) hS (fun q _ h => hFc q h) hFc (fun r u t H locs ht hvm hw hB hz1 hk1 hS => ?_)
                          refine ex_2_2 hB (fun x_476 f_477 b_x_476 e_x_476_0 hB => ?_)
                          obtain ⟨hP, hD⟩ := Bw.goN (ws' := [(oc7 oM iM_thrown rM_tape iM_taped iM_size iM_at iM_end iM_token iM_whole iM_nameSize iM_fault iM_place iM_trouble rM_letters iM_failed iM_hasCourt rM_r rM_fresh rM_told rM_read rM_st rM_undone rM_kept iM_undos iM_images rM_fresher iM_fresherSize iM_scale iM_night rM_heardRow rM_cutRow x_467 x_476 iM_allBreaths rM_trial rM_words iM_fewestBreaths iM_orderMany iM_orderSum iM_leastOrder rM_often iM_setMany iM_someOf iM_allOf iM_allWeight iM_enoughWeight iM_worthSum iM_firstRest iM_leastDrawn), (arI rM_r kM_r 287 fM_r), (arI rM_told kM_told 90 fM_told), (arI rM_heardRow kM_heardRow 400 f_469), (arI rM_cutRow kM_cutRow 800 f_477), (arI rQ kQ 90 fQ)]) hB rfl ht hP hD _ hMs hk1 hFc rfl
                          clear hz1 hk1 hvm ht hB hMs
                          obtain ⟨x_478, rfl⟩ : ∃ z, z = r := ⟨_, rfl⟩
                          exact wq_i hx hb hr 0 ⟨trivial, trivial⟩ (fun t ht hW => ⟨x_467, x_476, f_469, f_477, b_x_467, b_x_476, (by first | omega | decide | assumption), Bw.to hP hD hK ht hW⟩) hS dX7_hear_201 hlocks
                      · skip
                        have gc_472 := ti_nle c_472 rfl rfl
                        refine lv_iload hx hb dX7_hear_173 (lv_at hl 0 rfl) ?_
                        refine lv_goto (tgt := 180) hx hb dX7_hear_175 (by decide) ?_
                        refine lv_istore (lv' := [(6, .int x_471), (10, .int x_471), (9, .int x_445), (8, .int z_434), (7, .int x_433), (5, .int x_364), (0, .ref oM), (1, .ref rQ), (2, .int p0), (3, .int p1), (4, .int p2)]) hx hb dX7_hear_180 hl (by decide) rfl (fun ls hl => ?_)
                        refine lv_iload hx hb dX7_hear_182 (lv_at hl 0 rfl) ?_
                        refine lv_iload hx hb dX7_hear_184 (lv_at hl 10 rfl) ?_
                        refine lv_icmp_lt (tgt := 202) hx hb dX7_hear_186 (by decide) (fun c_479 => ?_) (fun c_479 => ?_)
                        · skip
                          have gc_479 := ti_lt c_479 rfl rfl
                          refine lv_goto (tgt := 264) hx hb dX7_hear_202 (by decide) ?_
                          obtain ⟨x_480, ex_480⟩ : ∃ z : Int32, z = z_434 + Int32.ofInt 1 := ⟨_, rfl⟩
                          have vx_480 : x_480.toInt = z_434.toInt + 1 := ti_add (y := 1) ex_480 rfl kc_1 (om_4e4fce7e hi0_n_440.1) (om_d6392c09 mn_p0.2 hi0_n_440.2)
                          refine lv_iinc (v := x_480) (lv' := [(8, .int x_480), (6, .int x_471), (10, .int x_471), (9, .int x_445), (7, .int x_433), (5, .int x_364), (0, .ref oM), (1, .ref rQ), (2, .int p0), (3, .int p1), (4, .int p2)]) hx hb dX7_hear_264 hl (k := 3) rfl ex_480.symm (by decide) rfl (fun ls hl => ?_)
                          refine lv_goto (tgt := 87) hx hb dX7_hear_267 (by decide) ?_
                          exact ih_n_440 x_480 x_471 x_467 x_468 f_469 f_470 _ _ _ b_x_467 b_x_468 ⟨(om_83b90de5 hi0_n_440.1 vx_480), (om_1ad1f819 cx_433 gc_441 vx_480)⟩ (by rw [show x_480.toNatClampNeg = z_434.toNatClampNeg + 1 from (by have q_1 := ti_cl (x := x_480) vx_480 (om_9548a8fd hi0_n_440.1); have q_2 := ti_cl (x := z_434) rfl hi0_n_440.1; omega)]; omega) (ms_lt hm_n_440 (om_dd4ae0bc vx_480) (om_6d498008 cx_433 gc_441)) hP hD hS (lv_sub hl [0, 4, 1, 5, 6, 7, 8, 9, 10] rfl)
                        · skip
                          have gc_479 := ti_nlt c_479 rfl rfl
                          refine lv_aload_n hx hb dX7_hear_189 rfl (lv_at hl 6 rfl) ?_
                          refine lv_aload_n hx hb dX7_hear_190 rfl (lv_at hl 7 rfl) ?_
                          refine lv_iload_n hx hb dX7_hear_191 rfl (lv_at hl 8 rfl) ?_
                          refine lv_iload hx hb dX7_hear_192 (lv_at hl 3 rfl) ?_
                          refine lv_iconst (v := 1) hx hb dX7_hear_194 (by decide) ?_
                          refine lv_iadd hx hb dX7_hear_195 ?_
                          refine lv_topi (fun x_481 ex_481 => ?_)
                          have vx_481 : x_481.toInt = z_434.toInt + 1 := ti_add ex_481 rfl kc_1 (om_4e4fce7e hi0_n_440.1) (om_d6392c09 mn_p0.2 hi0_n_440.2)
                          refine lv_iload hx hb dX7_hear_196 (lv_at hl 0 rfl) ?_
                          have hMs := ml_of hD [true, true, false, false, true, true] (wc := [(oc7 oM iM_thrown rM_tape iM_taped iM_size iM_at iM_end iM_token iM_whole iM_nameSize iM_fault iM_place iM_trouble rM_letters iM_failed iM_hasCourt rM_r rM_fresh rM_told rM_read rM_st rM_undone rM_kept iM_undos iM_images rM_fresher iM_fresherSize iM_scale iM_night rM_heardRow rM_cutRow x_467 x_468 iM_allBreaths rM_trial rM_words iM_fewestBreaths iM_orderMany iM_orderSum iM_leastOrder rM_often iM_setMany iM_someOf iM_allOf iM_allWeight iM_enoughWeight iM_worthSum iM_firstRest iM_leastDrawn), (arI rM_r kM_r 287 fM_r), (arI rM_cutRow kM_cutRow 800 f_470), (arI rQ kQ 90 fQ)]) rfl
                          have hFc := va_freeM hD hS hA _ hMs
                          refine va_calli (va_runV (As := [.ref rQ, .int p0, .int x_481, .int x_471]) (rest := []) ⟨hx, hb, hml, hown, hts⟩ (tX7_cutFrom l dC dI _ oM iM_thrown rM_tape iM_taped iM_size iM_at iM_end iM_token iM_whole iM_nameSize iM_fault iM_place iM_trouble rM_letters iM_failed iM_hasCourt rM_r fM_r kM_r rM_fresh rM_told rM_read rM_st rM_undone rM_kept iM_undos iM_images rM_fresher iM_fresherSize iM_scale iM_night rM_heardRow rM_cutRow f_470 kM_cutRow x_467 x_468 iM_allBreaths rM_trial rM_words iM_fewestBreaths iM_orderMany iM_orderSum iM_leastOrder rM_often iM_setMany iM_someOf iM_allOf iM_allWeight iM_enoughWeight iM_worthSum iM_firstRest iM_leastDrawn rQ fQ kQ p0 x_481 x_471 b_iM_taped b_iM_size b_iM_end b_iM_failed b_iM_hasCourt b_iM_undos b_iM_images b_iM_scale b_x_467 b_x_468 (by assumption) (by assumption) (by assumption) ⟨hk0.1, hk0.2⟩ ⟨(om_83b90de5 hi0_n_440.1 vx_481), (om_1ad1f819 cx_433 gc_441 vx_481)⟩ (by first | assumption | (have q0 := kc_0; have q1 := kc_1; first | exact ⟨by omega, by omega⟩ | omega) | decide | (intro h; exact absurd h (by decide)))) (cwV 4 hts (wd_V wd_783 wd_784 wd_785 wd_5 (wd_c wd_786)) rfl rfl rfl dv_yX7_cutFrom_4 ⟨(om_8728f9b4 n9), (om_05453fa9 n9)⟩) ⟨Pw.fb, recvX7 hK hP (q0 := 0) rfl, fun U hU hW => Pw.to (hP.ms _ hMs) (hD.ms _ hMs) (hK.ms [true, false, false, true, true] rfl) hE hS hFc hU hW⟩ rfl rfl hl.1 rfl (lv_room (Nat.le_of_ble_eq_true rfl)) dX7_hear_198 ⟨Nat.le_of_ble_eq_true rfl, Nat.le_of_ble_eq_true rfl⟩) hS (fun q _ h => hFc q h) hFc (fun r u t H locs ht hvm hw hB hz1 hk1 hS => ?_)
                          refine ex_2_2 hB (fun x_482 f_483 b_x_482 e_x_482_0 hB => ?_)
                          obtain ⟨hP, hD⟩ := Bw.goN (ws' := [(oc7 oM iM_thrown rM_tape iM_taped iM_size iM_at iM_end iM_token iM_whole iM_nameSize iM_fault iM_place iM_trouble rM_letters iM_failed iM_hasCourt rM_r rM_fresh rM_told rM_read rM_st rM_undone rM_kept iM_undos iM_images rM_fresher iM_fresherSize iM_scale iM_night rM_heardRow rM_cutRow x_467 x_482 iM_allBreaths rM_trial rM_words iM_fewestBreaths iM_orderMany iM_orderSum iM_leastOrder rM_often iM_setMany iM_someOf iM_allOf iM_allWeight iM_enoughWeight iM_worthSum iM_firstRest iM_leastDrawn), (arI rM_r kM_r 287 fM_r), (arI rM_told kM_told 90 fM_told), (arI rM_heardRow kM_heardRow 400 f_469), (arI rM_cutRow kM_cutRow 800 f_483), (arI rQ kQ 90 fQ)]) hB rfl ht hP hD _ hMs hk1 hFc rfl
                          clear hz1 hk1 hvm ht hB hMs
                          obtain ⟨x_484, rfl⟩ : ∃ z, z = r := ⟨_, rfl⟩
                          exact wq_i hx hb hr 0 ⟨trivial, trivial⟩ (fun t ht hW => ⟨x_467, x_482, f_469, f_483, b_x_467, b_x_482, (by first | omega | decide | assumption), Bw.to hP hD hK ht hW⟩) hS dX7_hear_201 hlocks
                · skip
                  have gc_446 := ti_eq c_446 rfl kc_3
                  exact ((om_3873ea92 gc_367 gc_446)).elim
          exact key_n_440 ((((fM_r (27 + p0.toNatClampNeg)).toInt - (0 : Int32).toInt).toNat) + 1) 0 (-100000000) iM_breaths iM_cutMany fM_heardRow fM_cutRow _ _ _ ⟨b_iM_breaths.1, b_iM_breaths.2⟩ ⟨b_iM_cutMany.1, b_iM_cutMany.2⟩ ⟨(om_b1de7dbe kc_0), (om_2dfe280d mn_p0.1 kc_0)⟩ (by first | (have q0 := kc_m100000000; have q1 := kc_0; have q2 := kc_1; omega) | decide | assumption) (Nat.lt_add_one _) hP hD hS hl
      · skip
        have gc_366 := ti_eq c_366 rfl kc_2
        refine lv_ldc hx hb hown (hts _ wd_653) dX7_hear_54 ?_
        refine lv_goto (tgt := 71) hx hb dX7_hear_56 (by decide) ?_
        refine lv_istore (lv' := [(6, .int 100000000), (5, .int x_364), (0, .ref oM), (1, .ref rQ), (2, .int p0), (3, .int p1), (4, .int p2)]) hx hb dX7_hear_71 hl (by decide) rfl (fun ls hl => ?_)
        refine lv_aload_n hx hb dX7_hear_73 rfl (lv_at hl 2 rfl) ?_
        refine va_get (D := (dC, dI)) (ci := 7) (v := .ref rM_r) (C := RX7) (T := TX7) (N := 48) hx hb hts inX7 hown hK hP 0 rfl rfl 15 (by decide) (hts _ wd_155) (fun _ h9 => h9) rfl dX7_hear_74 ?_
        refine lv_bipush (v := 27) hx hb dX7_hear_77 (by decide) ?_
        refine lv_iload_n hx hb dX7_hear_79 rfl (lv_at hl 4 rfl) ?_
        refine lv_iadd hx hb dX7_hear_80 ?_
        refine lv_topi (fun x_485 ex_485 => ?_)
        have vx_485 : x_485.toInt = p0.toInt + 27 := om_6c48219a (ti_add ex_485 kc_27 rfl (om_edd3f7cf hk0.1) (om_cf6669ce hk0.2 s_nodes.2))
        refine va_iald hx hb hK hP 1 0 rfl rfl (ti_in vx_485 (om_b4b48b7f hk0.1) (om_420abfc6 hk0.2 s_nodes.2)) dX7_hear_81 ?_
        refine lv_topi (fun x_486 ex_486 => ?_)
        have kx_486 : (fM_r x_485.toNatClampNeg).toInt = x_486.toInt := by rw [ex_486]
        have cx_486 : (fM_r (27 + p0.toNatClampNeg)).toInt = x_486.toInt := by rw [show 27 + p0.toNatClampNeg = x_485.toNatClampNeg from (om_779a3124 (ti_cl (x := p0) rfl hk0.1) (ti_cl (x := x_485) vx_485 (om_b4b48b7f hk0.1)))]; exact kx_486
        have sx_486 := r_R.many x_485.toNatClampNeg (om_ab5399c3 (ti_cl (x := x_485) vx_485 (om_b4b48b7f hk0.1)) hk0.1) (om_3b68d876 (ti_cl (x := x_485) vx_485 (om_b4b48b7f hk0.1)) hk0.2 s_nodes.2)
        refine lv_istore (lv' := [(7, .int x_486), (6, .int 100000000), (5, .int x_364), (0, .ref oM), (1, .ref rQ), (2, .int p0), (3, .int p1), (4, .int p2)]) hx hb dX7_hear_82 hl (by decide) rfl (fun ls hl => ?_)
        refine lv_iconst (v := 0) hx hb dX7_hear_84 (by decide) ?_
        refine lv_istore (lv' := [(8, .int 0), (7, .int x_486), (6, .int 100000000), (5, .int x_364), (0, .ref oM), (1, .ref rQ), (2, .int p0), (3, .int p1), (4, .int p2)]) hx hb dX7_hear_85 hl (by decide) rfl (fun ls hl => ?_)
        have hl := lv_sub hl (l' := [(8, .int 0), (7, .int x_486), (6, .int 100000000), (5, .int x_364), (0, .ref oM), (1, .ref rQ), (2, .int p0), (3, .int p1), (4, .int p2)]) [0, 1, 2, 3, 4, 5, 6, 7, 8] rfl
        have key_n_493 : ∀ (n_493 : Nat) (z_487 : Int32) (z_488 : Int32) (z_489 : Int32) (z_490 : Int32) (f_491 : Nat → Int32) (f_492 : Nat → Int32) (H : Heap) (locs : List Loc) (ls : Array Slot), (0 ≤ z_489.toInt ∧ z_489.toInt ≤ 399) → (0 ≤ z_490.toInt ∧ z_490.toInt ≤ 399) → (0 ≤ z_487.toInt ∧ z_487.toInt ≤ (fM_r (27 + p0.toNatClampNeg)).toInt) → (z_489.toInt + z_490.toInt ≤ iM_breaths.toInt + iM_cutMany.toInt + (rsum fM_r fQ p0.toNatClampNeg (z_487.toNatClampNeg) : Int)) → ((fM_r (27 + p0.toNatClampNeg)).toInt - z_487.toInt).toNat < n_493 → va_P (dC, dI) vwCl [(oc7 oM iM_thrown rM_tape iM_taped iM_size iM_at iM_end iM_token iM_whole iM_nameSize iM_fault iM_place iM_trouble rM_letters iM_failed iM_hasCourt rM_r rM_fresh rM_told rM_read rM_st rM_undone rM_kept iM_undos iM_images rM_fresher iM_fresherSize iM_scale iM_night rM_heardRow rM_cutRow z_489 z_490 iM_allBreaths rM_trial rM_words iM_fewestBreaths iM_orderMany iM_orderSum iM_leastOrder rM_often iM_setMany iM_someOf iM_allOf iM_allWeight iM_enoughWeight iM_worthSum iM_firstRest iM_leastDrawn), (arI rM_r kM_r 287 fM_r), (arI rM_told kM_told 90 fM_told), (arI rM_heardRow kM_heardRow 400 f_491), (arI rM_cutRow kM_cutRow 800 f_492), (arI rQ kQ 90 fQ)] H → va_D A [(oc7 oM iM_thrown rM_tape iM_taped iM_size iM_at iM_end iM_token iM_whole iM_nameSize iM_fault iM_place iM_trouble rM_letters iM_failed iM_hasCourt rM_r rM_fresh rM_told rM_read rM_st rM_undone rM_kept iM_undos iM_images rM_fresher iM_fresherSize iM_scale iM_night rM_heardRow rM_cutRow z_489 z_490 iM_allBreaths rM_trial rM_words iM_fewestBreaths iM_orderMany iM_orderSum iM_leastOrder rM_often iM_setMany iM_someOf iM_allOf iM_allWeight iM_enoughWeight iM_worthSum iM_firstRest iM_leastDrawn), (arI rM_r kM_r 287 fM_r), (arI rM_told kM_told 90 fM_told), (arI rM_heardRow kM_heardRow 400 f_491), (arI rM_cutRow kM_cutRow 800 f_492), (arI rQ kQ 90 fQ)] → va_S A s.heap H locs → lv_has ls 11 [(8, .int z_487), (7, .int x_486), (6, .int z_488), (5, .int x_364), (0, .ref oM), (1, .ref rQ), (2, .int p0), (3, .int p1), (4, .int p2)] → W p l e (headSpec (Cond.code yX7_hear cX7_hear 11 (some .int) :: wG) ({ frames := 1 + (n9 + 1), cells := 0, slots := 0, locals := 10 + 30 * (n9 + 1) })).room s m ([.ref oM, .ref rQ, .int p0, .int p1, .int p2] : List Value).toArray below meth c H locs 0 0 (MQ below (va_Qi (fun (r : Int32) (_ : Nat) => True ∧ True) (fun (_ : Nat) (t : State) => ∃ (niM_breaths : Int32) (niM_cutMany : Int32) (nfM_heardRow : Nat → Int32) (nfM_cutRow : Nat → Int32), (0 ≤ niM_breaths.toInt ∧ niM_breaths.toInt ≤ 399) ∧ (0 ≤ niM_cutMany.toInt ∧ niM_cutMany.toInt ≤ 399) ∧ (niM_breaths.toInt + niM_cutMany.toInt ≤ iM_breaths.toInt + iM_cutMany.toInt + (wgt fM_r p0.toNatClampNeg : Int)) ∧ Bw dC dI A [(oc7 oM iM_thrown rM_tape iM_taped iM_size iM_at iM_end iM_token iM_whole iM_nameSize iM_fault iM_place iM_trouble rM_letters iM_failed iM_hasCourt rM_r rM_fresh rM_told rM_read rM_st rM_undone rM_kept iM_undos iM_images rM_fresher iM_fresherSize iM_scale iM_night rM_heardRow rM_cutRow niM_breaths niM_cutMany iM_allBreaths rM_trial rM_words iM_fewestBreaths iM_orderMany iM_orderSum iM_leastOrder rM_often iM_setMany iM_someOf iM_allOf iM_allWeight iM_enoughWeight iM_worthSum iM_firstRest iM_leastDrawn), (arI rM_r kM_r 287 fM_r), (arI rM_told kM_told 90 fM_told), (arI rM_heardRow kM_heardRow 400 nfM_heardRow), (arI rM_cutRow kM_cutRow 800 nfM_cutRow), (arI rQ kQ 90 fQ)] [(kM_r, .int), (kM_told, .int), (kM_heardRow, .int), (kM_cutRow, .int), (kQ, .int)] t) A) ([.ref oM, .ref rQ, .int p0, .int p1, .int p2] : List Value).toArray s 0 0 A) (F0 m 87 ls []) := by
          intro n_493
          induction n_493 with
          | zero => intro z_487 z_488 z_489 z_490 f_491 f_492 H locs ls b_z_489 b_z_490 hi0_n_493 hi1_n_493 hm; exact absurd hm (Nat.not_lt_zero _)
          | succ n_493 ih_n_493 =>
            intro z_487 z_488 z_489 z_490 f_491 f_492 H locs ls b_z_489 b_z_490 hi0_n_493 hi1_n_493 hm_n_493 hP hD hS hl
            have gp_z_487 := rsum_gap r_R r_Q (k := p0.toNatClampNeg) (i := z_487.toNatClampNeg) (m := (fM_r (27 + p0.toNatClampNeg)).toInt.toNat) (by have q_1 := ti_cl (x := p0) rfl hk0.1; omega) (by omega) (by omega) (by have q_2 := ti_cl (x := z_487) rfl (by omega); omega)
            have q_z_487 := ti_cl (x := z_487) rfl (by omega)
            refine lv_iload hx hb dX7_hear_87 (lv_at hl 0 rfl) ?_
            refine lv_iload hx hb dX7_hear_89 (lv_at hl 1 rfl) ?_
            refine lv_icmp_ge (tgt := 270) hx hb dX7_hear_91 (by decide) (fun c_494 => ?_) (fun c_494 => ?_)
            · skip
              have gc_494 := ti_le c_494 rfl rfl
              refine lv_iload hx hb dX7_hear_270 (lv_at hl 3 rfl) ?_
              refine lv_iconst (v := 3) hx hb dX7_hear_272 (by decide) ?_
              refine lv_icmp_ne (tgt := 287) hx hb dX7_hear_273 (by decide) (fun c_495 => ?_) (fun c_495 => ?_)
              · skip
                have gc_495 := ti_ne c_495 rfl kc_3
                refine lv_iload hx hb dX7_hear_287 (lv_at hl 2 rfl) ?_
                exact wq_i hx hb hr 0 ⟨trivial, trivial⟩ (fun t ht hW => ⟨z_489, z_490, f_491, f_492, b_z_489, b_z_490, (by first | omega | decide | assumption), Bw.to hP hD hK ht hW⟩) hS dX7_hear_289 hlocks
              · skip
                have gc_495 := ti_eq c_495 rfl kc_3
                exact ((om_51643139 gc_366 gc_495)).elim
            · skip
              have gc_494 := ti_nle c_494 rfl rfl
              refine lv_aload_n hx hb dX7_hear_94 rfl (lv_at hl 5 rfl) ?_
              refine lv_iconst (v := 4) hx hb dX7_hear_95 (by decide) ?_
              refine lv_iload_n hx hb dX7_hear_96 rfl (lv_at hl 6 rfl) ?_
              refine lv_imul hx hb dX7_hear_97 ?_
              refine lv_topi (fun x_496 ex_496 => ?_)
              have vx_496 : x_496.toInt = 4 * p0.toInt := ti_mul ex_496 kc_4 rfl (om_56b74365 hk0.1) (om_eac0354e hk0.2 s_nodes.2)
              refine lv_iload hx hb dX7_hear_98 (lv_at hl 0 rfl) ?_
              refine lv_iadd hx hb dX7_hear_100 ?_
              refine lv_topi (fun x_497 ex_497 => ?_)
              have vx_497 : x_497.toInt = 4 * p0.toInt + z_487.toInt := om_5d0caf0f (ti_add ex_497 vx_496 rfl (om_056a216f hk0.1 hi0_n_493.1) (om_da12a7f8 hk0.2 s_nodes.2 mn_p0.2 hi0_n_493.2))
              refine va_iald hx hb hK hP 5 4 rfl rfl (ti_in vx_497 (om_fc2812d4 hk0.1 hi0_n_493.1) (om_01db022b hk0.2 s_nodes.2 mn_p0.2 hi0_n_493.2)) dX7_hear_101 ?_
              refine lv_topi (fun x_498 ex_498 => ?_)
              have kx_498 : (fQ x_497.toNatClampNeg).toInt = x_498.toInt := by rw [ex_498]
              have cx_498 : (fQ (4 * p0.toNatClampNeg + z_487.toNatClampNeg)).toInt = x_498.toInt := by rw [show 4 * p0.toNatClampNeg + z_487.toNatClampNeg = x_497.toNatClampNeg from (om_4de36627 (ti_cl (x := p0) rfl hk0.1) (ti_cl (x := z_487) rfl hi0_n_493.1) (ti_cl (x := x_497) vx_497 (om_fc2812d4 hk0.1 hi0_n_493.1)))]; exact kx_498
              have wx_498 : 0 ≤ x_498.toInt ∧ x_498.toInt < p0.toInt := row_lt r_Q (i := z_487.toNatClampNeg) (ti_cl (x := p0) rfl hk0.1) (ti_cl (x := z_487) rfl hi0_n_493.1) hk0.2 (om_644b432c cx_486 gc_494) (om_24300f0a (ti_cl (x := p0) rfl hk0.1) (ti_cl (x := z_487) rfl hi0_n_493.1)) cx_498
              have pr_x_498 := rsum_at r_R r_Q (k := p0.toNatClampNeg) (i := z_487.toNatClampNeg) (z := x_498) (by have q_1 := ti_cl (x := p0) rfl hk0.1; omega) (by omega) (by have q_1 := ti_cl (x := z_487) rfl hi0_n_493.1; omega) (by have q_3 := cx_498; rw [show 4 * p0.toNatClampNeg + z_487.toNatClampNeg = 4 * p0.toNatClampNeg + z_487.toNatClampNeg from by omega]; omega)
              have q_z_487 := ti_cl (x := z_487) rfl hi0_n_493.1
              refine lv_istore (lv' := [(9, .int x_498), (8, .int z_487), (7, .int x_486), (6, .int z_488), (5, .int x_364), (0, .ref oM), (1, .ref rQ), (2, .int p0), (3, .int p1), (4, .int p2)]) hx hb dX7_hear_102 hl (by decide) rfl (fun ls hl => ?_)
              refine lv_iload hx hb dX7_hear_104 (lv_at hl 4 rfl) ?_
              refine lv_iconst (v := 3) hx hb dX7_hear_106 (by decide) ?_
              refine lv_icmp_ne (tgt := 137) hx hb dX7_hear_107 (by decide) (fun c_499 => ?_) (fun c_499 => ?_)
              · skip
                have gc_499 := ti_ne c_499 rfl kc_3
                refine lv_iload hx hb dX7_hear_137 (lv_at hl 4 rfl) ?_
                refine lv_iconst (v := 1) hx hb dX7_hear_139 (by decide) ?_
                refine lv_icmp_ne (tgt := 205) hx hb dX7_hear_140 (by decide) (fun c_500 => ?_) (fun c_500 => ?_)
                · skip
                  have gc_500 := ti_ne c_500 rfl kc_1
                  refine lv_aload_n hx hb dX7_hear_205 rfl (lv_at hl 5 rfl) ?_
                  refine lv_aload_n hx hb dX7_hear_206 rfl (lv_at hl 6 rfl) ?_
                  refine lv_iload hx hb dX7_hear_207 (lv_at hl 0 rfl) ?_
                  refine lv_iload_n hx hb dX7_hear_209 rfl (lv_at hl 8 rfl) ?_
                  refine lv_iload hx hb dX7_hear_210 (lv_at hl 3 rfl) ?_
                  refine lv_iload hx hb dX7_hear_212 (lv_at hl 9 rfl) ?_
                  refine lv_icmp_ge (tgt := 222) hx hb dX7_hear_214 (by decide) (fun c_501 => ?_) (fun c_501 => ?_)
                  · skip
                    have gc_501 := ti_le c_501 rfl rfl
                    refine lv_iload hx hb dX7_hear_222 (lv_at hl 9 rfl) ?_
                    have hFc := va_freeI hD hS hA
                    refine va_calli (va_runV (As := [.ref rQ, .int x_498, .int p1, .int p2]) (rest := []) ⟨hx, hb, hml, hown, hts⟩ (ih9 _ oM iM_thrown rM_tape iM_taped iM_size iM_at iM_end iM_token iM_whole iM_nameSize iM_fault iM_place iM_trouble rM_letters iM_failed iM_hasCourt rM_r fM_r kM_r rM_fresh rM_told fM_told kM_told rM_read rM_st rM_undone rM_kept iM_undos iM_images rM_fresher iM_fresherSize iM_scale iM_night rM_heardRow f_491 kM_heardRow rM_cutRow f_492 kM_cutRow z_489 z_490 iM_allBreaths rM_trial rM_words iM_fewestBreaths iM_orderMany iM_orderSum iM_leastOrder rM_often iM_setMany iM_someOf iM_allOf iM_allWeight iM_enoughWeight iM_worthSum iM_firstRest iM_leastDrawn rQ fQ kQ x_498 p1 p2 b_iM_taped b_iM_size b_iM_end b_iM_failed b_iM_hasCourt b_iM_undos b_iM_images b_iM_scale b_z_489 b_z_490 (by assumption) (by assumption) (by assumption) (by assumption) ⟨wx_498.1, (om_90a71968 hk0.2 wx_498.2)⟩ (by first | assumption | (have q0 := kc_0; have q1 := kc_1; first | exact ⟨by omega, by omega⟩ | omega) | decide | (intro h; exact absurd h (by decide))) (by first | assumption | (have q0 := kc_0; have q1 := kc_1; first | exact ⟨by omega, by omega⟩ | omega) | decide | (intro h; exact absurd h (by decide)))) (cwV 4 hts (wd_V wd_779 wd_780 wd_781 wd_5 (wd_c wd_782)) rfl rfl rfl (by decide +kernel) ⟨(om_70783806 n9), (om_db56e044 n9)⟩) ⟨Pw.fb, recvX7 hK hP (q0 := 0) rfl, fun U hU hW => Pw.to hP hD hK hE hS hFc hU hW⟩ rfl rfl hl.1 rfl (lv_room (Nat.le_of_ble_eq_true rfl)) dX7_hear_224 ⟨Nat.le_of_ble_eq_true rfl, Nat.le_of_ble_eq_true rfl⟩) hS (fun q _ h => hFc q h) hFc (fun r u t H locs ht hvm hw hB hz1 hk1 hS => ?_)
                    refine ex_4_3 hB (fun x_502 x_503 f_504 f_505 b_x_502 b_x_503 e_x_502_0 hB => ?_)
                    obtain ⟨hP, hD⟩ := Bw.goA (ws' := [(oc7 oM iM_thrown rM_tape iM_taped iM_size iM_at iM_end iM_token iM_whole iM_nameSize iM_fault iM_place iM_trouble rM_letters iM_failed iM_hasCourt rM_r rM_fresh rM_told rM_read rM_st rM_undone rM_kept iM_undos iM_images rM_fresher iM_fresherSize iM_scale iM_night rM_heardRow rM_cutRow x_502 x_503 iM_allBreaths rM_trial rM_words iM_fewestBreaths iM_orderMany iM_orderSum iM_leastOrder rM_often iM_setMany iM_someOf iM_allOf iM_allWeight iM_enoughWeight iM_worthSum iM_firstRest iM_leastDrawn), (arI rM_r kM_r 287 fM_r), (arI rM_told kM_told 90 fM_told), (arI rM_heardRow kM_heardRow 400 f_504), (arI rM_cutRow kM_cutRow 800 f_505), (arI rQ kQ 90 fQ)]) hB rfl ht hFc rfl
                    clear hz1 hk1 hvm ht hB
                    obtain ⟨x_506, rfl⟩ : ∃ z, z = r := ⟨_, rfl⟩
                    refine lv_istore (lv' := [(10, .int x_506), (9, .int x_498), (8, .int z_487), (7, .int x_486), (6, .int z_488), (5, .int x_364), (0, .ref oM), (1, .ref rQ), (2, .int p0), (3, .int p1), (4, .int p2)]) hx hb dX7_hear_227 hl (by decide) rfl (fun ls hl => ?_)
                    refine lv_iload hx hb dX7_hear_229 (lv_at hl 0 rfl) ?_
                    refine lv_iload hx hb dX7_hear_231 (lv_at hl 4 rfl) ?_
                    refine lv_icmp_ge (tgt := 241) hx hb dX7_hear_233 (by decide) (fun c_507 => ?_) (fun c_507 => ?_)
                    · skip
                      have gc_507 := ti_le c_507 rfl rfl
                      refine lv_iload hx hb dX7_hear_241 (lv_at hl 4 rfl) ?_
                      refine lv_istore (lv' := [(6, .int z_488), (10, .int x_506), (9, .int x_498), (8, .int z_487), (7, .int x_486), (5, .int x_364), (0, .ref oM), (1, .ref rQ), (2, .int p0), (3, .int p1), (4, .int p2)]) hx hb dX7_hear_243 hl (by decide) rfl (fun ls hl => ?_)
                      refine lv_iload hx hb dX7_hear_245 (lv_at hl 0 rfl) ?_
                      refine lv_iload_n hx hb dX7_hear_247 rfl (lv_at hl 9 rfl) ?_
                      refine lv_icmp_gt (tgt := 264) hx hb dX7_hear_248 (by decide) (fun c_508 => ?_) (fun c_508 => ?_)
                      · skip
                        have gc_508 := ti_lt c_508 rfl rfl
                        obtain ⟨x_509, ex_509⟩ : ∃ z : Int32, z = z_487 + Int32.ofInt 1 := ⟨_, rfl⟩
                        have vx_509 : x_509.toInt = z_487.toInt + 1 := ti_add (y := 1) ex_509 rfl kc_1 (om_4e4fce7e hi0_n_493.1) (om_d6392c09 mn_p0.2 hi0_n_493.2)
                        refine lv_iinc (v := x_509) (lv' := [(8, .int x_509), (6, .int z_488), (10, .int x_506), (9, .int x_498), (7, .int x_486), (5, .int x_364), (0, .ref oM), (1, .ref rQ), (2, .int p0), (3, .int p1), (4, .int p2)]) hx hb dX7_hear_264 hl (k := 3) rfl ex_509.symm (by decide) rfl (fun ls hl => ?_)
                        refine lv_goto (tgt := 87) hx hb dX7_hear_267 (by decide) ?_
                        exact ih_n_493 x_509 z_488 x_502 x_503 f_504 f_505 _ _ _ b_x_502 b_x_503 ⟨(om_83b90de5 hi0_n_493.1 vx_509), (om_1ad1f819 cx_486 gc_494 vx_509)⟩ (by rw [show x_509.toNatClampNeg = z_487.toNatClampNeg + 1 from (by have q_1 := ti_cl (x := x_509) vx_509 (om_9548a8fd hi0_n_493.1); have q_2 := ti_cl (x := z_487) rfl hi0_n_493.1; omega)]; omega) (ms_lt hm_n_493 (om_dd4ae0bc vx_509) (om_6d498008 cx_486 gc_494)) hP hD hS (lv_sub hl [0, 4, 1, 5, 6, 7, 8, 9, 10] rfl)
                      · skip
                        have gc_508 := ti_nlt c_508 rfl rfl
                        refine lv_aload_n hx hb dX7_hear_251 rfl (lv_at hl 6 rfl) ?_
                        refine lv_aload_n hx hb dX7_hear_252 rfl (lv_at hl 7 rfl) ?_
                        refine lv_iload_n hx hb dX7_hear_253 rfl (lv_at hl 8 rfl) ?_
                        refine lv_iload hx hb dX7_hear_254 (lv_at hl 3 rfl) ?_
                        refine lv_iconst (v := 1) hx hb dX7_hear_256 (by decide) ?_
                        refine lv_iadd hx hb dX7_hear_257 ?_
                        refine lv_topi (fun x_510 ex_510 => ?_)
                        have vx_510 : x_510.toInt = z_487.toInt + 1 := ti_add ex_510 rfl kc_1 (om_4e4fce7e hi0_n_493.1) (om_d6392c09 mn_p0.2 hi0_n_493.2)
                        refine lv_iload hx hb dX7_hear_258 (lv_at hl 0 rfl) ?_
                        have hMs := ml_of hD [true, true, false, false, true, true] (wc := [(oc7 oM iM_thrown rM_tape iM_taped iM_size iM_at iM_end iM_token iM_whole iM_nameSize iM_fault iM_place iM_trouble rM_letters iM_failed iM_hasCourt rM_r rM_fresh rM_told rM_read rM_st rM_undone rM_kept iM_undos iM_images rM_fresher iM_fresherSize iM_scale iM_night rM_heardRow rM_cutRow x_502 x_503 iM_allBreaths rM_trial rM_words iM_fewestBreaths iM_orderMany iM_orderSum iM_leastOrder rM_often iM_setMany iM_someOf iM_allOf iM_allWeight iM_enoughWeight iM_worthSum iM_firstRest iM_leastDrawn), (arI rM_r kM_r 287 fM_r), (arI rM_cutRow kM_cutRow 800 f_505), (arI rQ kQ 90 fQ)]) rfl
                        have hFc := va_freeM hD hS hA _ hMs
                        refine va_calli (va_runV (As := [.ref rQ, .int p0, .int x_510, .int z_488]) (rest := []) ⟨hx, hb, hml, hown, hts⟩ (tX7_cutFrom l dC dI _ oM iM_thrown rM_tape iM_taped iM_size iM_at iM_end iM_token iM_whole iM_nameSize iM_fault iM_place iM_trouble rM_letters iM_failed iM_hasCourt rM_r fM_r kM_r rM_fresh rM_told rM_read rM_st rM_undone rM_kept iM_undos iM_images rM_fresher iM_fresherSize iM_scale iM_night rM_heardRow rM_cutRow f_505 kM_cutRow x_502 x_503 iM_allBreaths rM_trial rM_words iM_fewestBreaths iM_orderMany iM_orderSum iM_leastOrder rM_often iM_setMany iM_someOf iM_allOf iM_allWeight iM_enoughWeight iM_worthSum iM_firstRest iM_leastDrawn rQ fQ kQ p0 x_510 z_488 b_iM_taped b_iM_size b_iM_end b_iM_failed b_iM_hasCourt b_iM_undos b_iM_images b_iM_scale b_x_502 b_x_503 (by assumption) (by assumption) (by assumption) ⟨hk0.1, hk0.2⟩ ⟨(om_83b90de5 hi0_n_493.1 vx_510), (om_1ad1f819 cx_486 gc_494 vx_510)⟩ (by first | assumption | (have q0 := kc_0; have q1 := kc_1; first | exact ⟨by omega, by omega⟩ | omega) | decide | (intro h; exact absurd h (by decide)))) (cwV 4 hts (wd_V wd_783 wd_784 wd_785 wd_5 (wd_c wd_786)) rfl rfl rfl dv_yX7_cutFrom_4 ⟨(om_8728f9b4 n9), (om_05453fa9 n9)⟩) ⟨Pw.fb, recvX7 hK hP (q0 := 0) rfl, fun U hU hW => Pw.to (hP.ms _ hMs) (hD.ms _ hMs) (hK.ms [true, false, false, true, true] rfl) hE hS hFc hU hW⟩ rfl rfl hl.1 rfl (lv_room (Nat.le_of_ble_eq_true rfl)) dX7_hear_260 ⟨Nat.le_of_ble_eq_true rfl, Nat.le_of_ble_eq_true rfl⟩) hS (fun q _ h => hFc q h) hFc (fun r u t H locs ht hvm hw hB hz1 hk1 hS => ?_)
                        refine ex_2_2 hB (fun x_511 f_512 b_x_511 e_x_511_0 hB => ?_)
                        obtain ⟨hP, hD⟩ := Bw.goN (ws' := [(oc7 oM iM_thrown rM_tape iM_taped iM_size iM_at iM_end iM_token iM_whole iM_nameSize iM_fault iM_place iM_trouble rM_letters iM_failed iM_hasCourt rM_r rM_fresh rM_told rM_read rM_st rM_undone rM_kept iM_undos iM_images rM_fresher iM_fresherSize iM_scale iM_night rM_heardRow rM_cutRow x_502 x_511 iM_allBreaths rM_trial rM_words iM_fewestBreaths iM_orderMany iM_orderSum iM_leastOrder rM_often iM_setMany iM_someOf iM_allOf iM_allWeight iM_enoughWeight iM_worthSum iM_firstRest iM_leastDrawn), (arI rM_r kM_r 287 fM_r), (arI rM_told kM_told 90 fM_told), (arI rM_heardRow kM_heardRow 400 f_504), (arI rM_cutRow kM_cutRow 800 f_512), (arI rQ kQ 90 fQ)]) hB rfl ht hP hD _ hMs hk1 hFc rfl
                        clear hz1 hk1 hvm ht hB hMs
                        obtain ⟨x_513, rfl⟩ : ∃ z, z = r := ⟨_, rfl⟩
                        exact wq_i hx hb hr 0 ⟨trivial, trivial⟩ (fun t ht hW => ⟨x_502, x_511, f_504, f_512, b_x_502, b_x_511, (by first | omega | decide | assumption), Bw.to hP hD hK ht hW⟩) hS dX7_hear_263 hlocks
                    · skip
                      have gc_507 := ti_nle c_507 rfl rfl
                      refine lv_iload hx hb dX7_hear_236 (lv_at hl 0 rfl) ?_
                      refine lv_goto (tgt := 243) hx hb dX7_hear_238 (by decide) ?_
                      refine lv_istore (lv' := [(6, .int x_506), (10, .int x_506), (9, .int x_498), (8, .int z_487), (7, .int x_486), (5, .int x_364), (0, .ref oM), (1, .ref rQ), (2, .int p0), (3, .int p1), (4, .int p2)]) hx hb dX7_hear_243 hl (by decide) rfl (fun ls hl => ?_)
                      refine lv_iload hx hb dX7_hear_245 (lv_at hl 0 rfl) ?_
                      refine lv_iload_n hx hb dX7_hear_247 rfl (lv_at hl 9 rfl) ?_
                      refine lv_icmp_gt (tgt := 264) hx hb dX7_hear_248 (by decide) (fun c_514 => ?_) (fun c_514 => ?_)
                      · skip
                        have gc_514 := ti_lt c_514 rfl rfl
                        obtain ⟨x_515, ex_515⟩ : ∃ z : Int32, z = z_487 + Int32.ofInt 1 := ⟨_, rfl⟩
                        have vx_515 : x_515.toInt = z_487.toInt + 1 := ti_add (y := 1) ex_515 rfl kc_1 (om_4e4fce7e hi0_n_493.1) (om_d6392c09 mn_p0.2 hi0_n_493.2)
                        refine lv_iinc (v := x_515) (lv' := [(8, .int x_515), (6, .int x_506), (10, .int x_506), (9, .int x_498), (7, .int x_486), (5, .int x_364), (0, .ref oM), (1, .ref rQ), (2, .int p0), (3, .int p1), (4, .int p2)]) hx hb dX7_hear_264 hl (k := 3) rfl ex_515.symm (by decide) rfl (fun ls hl => ?_)
                        refine lv_goto (tgt := 87) hx hb dX7_hear_267 (by decide) ?_
                        exact ih_n_493 x_515 x_506 x_502 x_503 f_504 f_505 _ _ _ b_x_502 b_x_503 ⟨(om_83b90de5 hi0_n_493.1 vx_515), (om_1ad1f819 cx_486 gc_494 vx_515)⟩ (by rw [show x_515.toNatClampNeg = z_487.toNatClampNeg + 1 from (by have q_1 := ti_cl (x := x_515) vx_515 (om_9548a8fd hi0_n_493.1); have q_2 := ti_cl (x := z_487) rfl hi0_n_493.1; omega)]; omega) (ms_lt hm_n_493 (om_dd4ae0bc vx_515) (om_6d498008 cx_486 gc_494)) hP hD hS (lv_sub hl [0, 4, 1, 5, 6, 7, 8, 9, 10] rfl)
                      · skip
                        have gc_514 := ti_nlt c_514 rfl rfl
                        refine lv_aload_n hx hb dX7_hear_251 rfl (lv_at hl 6 rfl) ?_
                        refine lv_aload_n hx hb dX7_hear_252 rfl (lv_at hl 7 rfl) ?_
                        refine lv_iload_n hx hb dX7_hear_253 rfl (lv_at hl 8 rfl) ?_
                        refine lv_iload hx hb dX7_hear_254 (lv_at hl 3 rfl) ?_
                        refine lv_iconst (v := 1) hx hb dX7_hear_256 (by decide) ?_
                        refine lv_iadd hx hb dX7_hear_257 ?_
                        refine lv_topi (fun x_516 ex_516 => ?_)
                        have vx_516 : x_516.toInt = z_487.toInt + 1 := ti_add ex_516 rfl kc_1 (om_4e4fce7e hi0_n_493.1) (om_d6392c09 mn_p0.2 hi0_n_493.2)
                        refine lv_iload hx hb dX7_hear_258 (lv_at hl 0 rfl) ?_
                        have hMs := ml_of hD [true, true, false, false, true, true] (wc := [(oc7 oM iM_thrown rM_tape iM_taped iM_size iM_at iM_end iM_token iM_whole iM_nameSize iM_fault iM_place iM_trouble rM_letters iM_failed iM_hasCourt rM_r rM_fresh rM_told rM_read rM_st rM_undone rM_kept iM_undos iM_images rM_fresher iM_fresherSize iM_scale iM_night rM_heardRow rM_cutRow x_502 x_503 iM_allBreaths rM_trial rM_words iM_fewestBreaths iM_orderMany iM_orderSum iM_leastOrder rM_often iM_setMany iM_someOf iM_allOf iM_allWeight iM_enoughWeight iM_worthSum iM_firstRest iM_leastDrawn), (arI rM_r kM_r 287 fM_r), (arI rM_cutRow kM_cutRow 800 f_505), (arI rQ kQ 90 fQ)]) rfl
                        have hFc := va_freeM hD hS hA _ hMs
                        refine va_calli (va_runV (As := [.ref rQ, .int p0, .int x_516, .int x_506]) (rest := []) ⟨hx, hb, hml, hown, hts⟩ (tX7_cutFrom l dC dI _ oM iM_thrown rM_tape iM_taped iM_size iM_at iM_end iM_token iM_whole iM_nameSize iM_fault iM_place iM_trouble rM_letters iM_failed iM_hasCourt rM_r fM_r kM_r rM_fresh rM_told rM_read rM_st rM_undone rM_kept iM_undos iM_images rM_fresher iM_fresherSize iM_scale iM_night rM_heardRow rM_cutRow f_505 kM_cutRow x_502 x_503 iM_allBreaths rM_trial rM_words iM_fewestBreaths iM_orderMany iM_orderSum iM_leastOrder rM_often iM_setMany iM_someOf iM_allOf iM_allWeight iM_enoughWeight iM_worthSum iM_firstRest iM_leastDrawn rQ fQ kQ p0 x_516 x_506 b_iM_taped b_iM_size b_iM_end b_iM_failed b_iM_hasCourt b_iM_undos b_iM_images b_iM_scale b_x_502 b_x_503 (by assumption) (by assumption) (by assumption) ⟨hk0.1, hk0.2⟩ ⟨(om_83b90de5 hi0_n_493.1 vx_516), (om_1ad1f819 cx_486 gc_494 vx_516)⟩ (by first | assumption | (have q0 := kc_0; have q1 := kc_1; first | exact ⟨by omega, by omega⟩ | omega) | decide | (intro h; exact absurd h (by decide)))) (cwV 4 hts (wd_V wd_783 wd_784 wd_785 wd_5 (wd_c wd_786)) rfl rfl rfl dv_yX7_cutFrom_4 ⟨(om_8728f9b4 n9), (om_05453fa9 n9)⟩) ⟨Pw.fb, recvX7 hK hP (q0 := 0) rfl, fun U hU hW => Pw.to (hP.ms _ hMs) (hD.ms _ hMs) (hK.ms [true, false, false, true, true] rfl) hE hS hFc hU hW⟩ rfl rfl hl.1 rfl (lv_room (Nat.le_of_ble_eq_true rfl)) dX7_hear_260 ⟨Nat.le_of_ble_eq_true rfl, Nat.le_of_ble_eq_true rfl⟩) hS (fun q _ h => hFc q h) hFc (fun r u t H locs ht hvm hw hB hz1 hk1 hS => ?_)
                        refine ex_2_2 hB (fun x_517 f_518 b_x_517 e_x_517_0 hB => ?_)
                        obtain ⟨hP, hD⟩ := Bw.goN (ws' := [(oc7 oM iM_thrown rM_tape iM_taped iM_size iM_at iM_end iM_token iM_whole iM_nameSize iM_fault iM_place iM_trouble rM_letters iM_failed iM_hasCourt rM_r rM_fresh rM_told rM_read rM_st rM_undone rM_kept iM_undos iM_images rM_fresher iM_fresherSize iM_scale iM_night rM_heardRow rM_cutRow x_502 x_517 iM_allBreaths rM_trial rM_words iM_fewestBreaths iM_orderMany iM_orderSum iM_leastOrder rM_often iM_setMany iM_someOf iM_allOf iM_allWeight iM_enoughWeight iM_worthSum iM_firstRest iM_leastDrawn), (arI rM_r kM_r 287 fM_r), (arI rM_told kM_told 90 fM_told), (arI rM_heardRow kM_heardRow 400 f_504), (arI rM_cutRow kM_cutRow 800 f_518), (arI rQ kQ 90 fQ)]) hB rfl ht hP hD _ hMs hk1 hFc rfl
                        clear hz1 hk1 hvm ht hB hMs
                        obtain ⟨x_519, rfl⟩ : ∃ z, z = r := ⟨_, rfl⟩
                        exact wq_i hx hb hr 0 ⟨trivial, trivial⟩ (fun t ht hW => ⟨x_502, x_517, f_504, f_518, b_x_502, b_x_517, (by first | omega | decide | assumption), Bw.to hP hD hK ht hW⟩) hS dX7_hear_263 hlocks
                  · skip
                    have gc_501 := ti_nle c_501 rfl rfl
                    refine lv_iload hx hb dX7_hear_217 (lv_at hl 3 rfl) ?_
                    refine lv_goto (tgt := 224) hx hb dX7_hear_219 (by decide) ?_
                    have hFc := va_freeI hD hS hA
                    refine va_calli (va_runV (As := [.ref rQ, .int x_498, .int p1, .int z_488]) (rest := []) ⟨hx, hb, hml, hown, hts⟩ (ih9 _ oM iM_thrown rM_tape iM_taped iM_size iM_at iM_end iM_token iM_whole iM_nameSize iM_fault iM_place iM_trouble rM_letters iM_failed iM_hasCourt rM_r fM_r kM_r rM_fresh rM_told fM_told kM_told rM_read rM_st rM_undone rM_kept iM_undos iM_images rM_fresher iM_fresherSize iM_scale iM_night rM_heardRow f_491 kM_heardRow rM_cutRow f_492 kM_cutRow z_489 z_490 iM_allBreaths rM_trial rM_words iM_fewestBreaths iM_orderMany iM_orderSum iM_leastOrder rM_often iM_setMany iM_someOf iM_allOf iM_allWeight iM_enoughWeight iM_worthSum iM_firstRest iM_leastDrawn rQ fQ kQ x_498 p1 z_488 b_iM_taped b_iM_size b_iM_end b_iM_failed b_iM_hasCourt b_iM_undos b_iM_images b_iM_scale b_z_489 b_z_490 (by assumption) (by assumption) (by assumption) (by assumption) ⟨wx_498.1, (om_90a71968 hk0.2 wx_498.2)⟩ (by first | assumption | (have q0 := kc_0; have q1 := kc_1; first | exact ⟨by omega, by omega⟩ | omega) | decide | (intro h; exact absurd h (by decide))) (by first | assumption | (have q0 := kc_0; have q1 := kc_1; first | exact ⟨by omega, by omega⟩ | omega) | decide | (intro h; exact absurd h (by decide)))) (cwV 4 hts (wd_V wd_779 wd_780 wd_781 wd_5 (wd_c wd_782)) rfl rfl rfl (by decide +kernel) ⟨(om_70783806 n9), (om_db56e044 n9)⟩) ⟨Pw.fb, recvX7 hK hP (q0 := 0) rfl, fun U hU hW => Pw.to hP hD hK hE hS hFc hU hW⟩ rfl rfl hl.1 rfl (lv_room (Nat.le_of_ble_eq_true rfl)) dX7_hear_224 ⟨Nat.le_of_ble_eq_true rfl, Nat.le_of_ble_eq_true rfl⟩) hS (fun q _ h => hFc q h) hFc (fun r u t H locs ht hvm hw hB hz1 hk1 hS => ?_)
                    refine ex_4_3 hB (fun x_520 x_521 f_522 f_523 b_x_520 b_x_521 e_x_520_0 hB => ?_)
                    obtain ⟨hP, hD⟩ := Bw.goA (ws' := [(oc7 oM iM_thrown rM_tape iM_taped iM_size iM_at iM_end iM_token iM_whole iM_nameSize iM_fault iM_place iM_trouble rM_letters iM_failed iM_hasCourt rM_r rM_fresh rM_told rM_read rM_st rM_undone rM_kept iM_undos iM_images rM_fresher iM_fresherSize iM_scale iM_night rM_heardRow rM_cutRow x_520 x_521 iM_allBreaths rM_trial rM_words iM_fewestBreaths iM_orderMany iM_orderSum iM_leastOrder rM_often iM_setMany iM_someOf iM_allOf iM_allWeight iM_enoughWeight iM_worthSum iM_firstRest iM_leastDrawn), (arI rM_r kM_r 287 fM_r), (arI rM_told kM_told 90 fM_told), (arI rM_heardRow kM_heardRow 400 f_522), (arI rM_cutRow kM_cutRow 800 f_523), (arI rQ kQ 90 fQ)]) hB rfl ht hFc rfl
                    clear hz1 hk1 hvm ht hB
                    obtain ⟨x_524, rfl⟩ : ∃ z, z = r := ⟨_, rfl⟩
                    refine lv_istore (lv' := [(10, .int x_524), (9, .int x_498), (8, .int z_487), (7, .int x_486), (6, .int z_488), (5, .int x_364), (0, .ref oM), (1, .ref rQ), (2, .int p0), (3, .int p1), (4, .int p2)]) hx hb dX7_hear_227 hl (by decide) rfl (fun ls hl => ?_)
                    refine lv_iload hx hb dX7_hear_229 (lv_at hl 0 rfl) ?_
                    refine lv_iload hx hb dX7_hear_231 (lv_at hl 4 rfl) ?_
                    refine lv_icmp_ge (tgt := 241) hx hb dX7_hear_233 (by decide) (fun c_525 => ?_) (fun c_525 => ?_)
                    · skip
                      have gc_525 := ti_le c_525 rfl rfl
                      refine lv_iload hx hb dX7_hear_241 (lv_at hl 4 rfl) ?_
                      refine lv_istore (lv' := [(6, .int z_488), (10, .int x_524), (9, .int x_498), (8, .int z_487), (7, .int x_486), (5, .int x_364), (0, .ref oM), (1, .ref rQ), (2, .int p0), (3, .int p1), (4, .int p2)]) hx hb dX7_hear_243 hl (by decide) rfl (fun ls hl => ?_)
                      refine lv_iload hx hb dX7_hear_245 (lv_at hl 0 rfl) ?_
                      refine lv_iload_n hx hb dX7_hear_247 rfl (lv_at hl 9 rfl) ?_
                      refine lv_icmp_gt (tgt := 264) hx hb dX7_hear_248 (by decide) (fun c_526 => ?_) (fun c_526 => ?_)
                      · skip
                        have gc_526 := ti_lt c_526 rfl rfl
                        obtain ⟨x_527, ex_527⟩ : ∃ z : Int32, z = z_487 + Int32.ofInt 1 := ⟨_, rfl⟩
                        have vx_527 : x_527.toInt = z_487.toInt + 1 := ti_add (y := 1) ex_527 rfl kc_1 (om_4e4fce7e hi0_n_493.1) (om_d6392c09 mn_p0.2 hi0_n_493.2)
                        refine lv_iinc (v := x_527) (lv' := [(8, .int x_527), (6, .int z_488), (10, .int x_524), (9, .int x_498), (7, .int x_486), (5, .int x_364), (0, .ref oM), (1, .ref rQ), (2, .int p0), (3, .int p1), (4, .int p2)]) hx hb dX7_hear_264 hl (k := 3) rfl ex_527.symm (by decide) rfl (fun ls hl => ?_)
                        refine lv_goto (tgt := 87) hx hb dX7_hear_267 (by decide) ?_
                        exact ih_n_493 x_527 z_488 x_520 x_521 f_522 f_523 _ _ _ b_x_520 b_x_521 ⟨(om_83b90de5 hi0_n_493.1 vx_527), (om_1ad1f819 cx_486 gc_494 vx_527)⟩ (by rw [show x_527.toNatClampNeg = z_487.toNatClampNeg + 1 from (by have q_1 := ti_cl (x := x_527) vx_527 (om_9548a8fd hi0_n_493.1); have q_2 := ti_cl (x := z_487) rfl hi0_n_493.1; omega)]; omega) (ms_lt hm_n_493 (om_dd4ae0bc vx_527) (om_6d498008 cx_486 gc_494)) hP hD hS (lv_sub hl [0, 4, 1, 5, 6, 7, 8, 9, 10] rfl)
                      · skip
                        have gc_526 := ti_nlt c_526 rfl rfl
                        refine lv_aload_n hx hb dX7_hear_251 rfl (lv_at hl 6 rfl) ?_
                        refine lv_aload_n hx hb dX7_hear_252 rfl (lv_at hl 7 rfl) ?_
                        refine lv_iload_n hx hb dX7_hear_253 rfl (lv_at hl 8 rfl) ?_
                        refine lv_iload hx hb dX7_hear_254 (lv_at hl 3 rfl) ?_
                        refine lv_iconst (v := 1) hx hb dX7_hear_256 (by decide) ?_
                        refine lv_iadd hx hb dX7_hear_257 ?_
                        refine lv_topi (fun x_528 ex_528 => ?_)
                        have vx_528 : x_528.toInt = z_487.toInt + 1 := ti_add ex_528 rfl kc_1 (om_4e4fce7e hi0_n_493.1) (om_d6392c09 mn_p0.2 hi0_n_493.2)
                        refine lv_iload hx hb dX7_hear_258 (lv_at hl 0 rfl) ?_
                        have hMs := ml_of hD [true, true, false, false, true, true] (wc := [(oc7 oM iM_thrown rM_tape iM_taped iM_size iM_at iM_end iM_token iM_whole iM_nameSize iM_fault iM_place iM_trouble rM_letters iM_failed iM_hasCourt rM_r rM_fresh rM_told rM_read rM_st rM_undone rM_kept iM_undos iM_images rM_fresher iM_fresherSize iM_scale iM_night rM_heardRow rM_cutRow x_520 x_521 iM_allBreaths rM_trial rM_words iM_fewestBreaths iM_orderMany iM_orderSum iM_leastOrder rM_often iM_setMany iM_someOf iM_allOf iM_allWeight iM_enoughWeight iM_worthSum iM_firstRest iM_leastDrawn), (arI rM_r kM_r 287 fM_r), (arI rM_cutRow kM_cutRow 800 f_523), (arI rQ kQ 90 fQ)]) rfl
                        have hFc := va_freeM hD hS hA _ hMs
                        refine va_calli (va_runV (As := [.ref rQ, .int p0, .int x_528, .int z_488]) (rest := []) ⟨hx, hb, hml, hown, hts⟩ (tX7_cutFrom l dC dI _ oM iM_thrown rM_tape iM_taped iM_size iM_at iM_end iM_token iM_whole iM_nameSize iM_fault iM_place iM_trouble rM_letters iM_failed iM_hasCourt rM_r fM_r kM_r rM_fresh rM_told rM_read rM_st rM_undone rM_kept iM_undos iM_images rM_fresher iM_fresherSize iM_scale iM_night rM_heardRow rM_cutRow f_523 kM_cutRow x_520 x_521 iM_allBreaths rM_trial rM_words iM_fewestBreaths iM_orderMany iM_orderSum iM_leastOrder rM_often iM_setMany iM_someOf iM_allOf iM_allWeight iM_enoughWeight iM_worthSum iM_firstRest iM_leastDrawn rQ fQ kQ p0 x_528 z_488 b_iM_taped b_iM_size b_iM_end b_iM_failed b_iM_hasCourt b_iM_undos b_iM_images b_iM_scale b_x_520 b_x_521 (by assumption) (by assumption) (by assumption) ⟨hk0.1, hk0.2⟩ ⟨(om_83b90de5 hi0_n_493.1 vx_528), (om_1ad1f819 cx_486 gc_494 vx_528)⟩ (by first | assumption | (have q0 := kc_0; have q1 := kc_1; first | exact ⟨by omega, by omega⟩ | omega) | decide | (intro h; exact absurd h (by decide)))) (cwV 4 hts (wd_V wd_783 wd_784 wd_785 wd_5 (wd_c wd_786)) rfl rfl rfl dv_yX7_cutFrom_4 ⟨(om_8728f9b4 n9), (om_05453fa9 n9)⟩) ⟨Pw.fb, recvX7 hK hP (q0 := 0) rfl, fun U hU hW => Pw.to (hP.ms _ hMs) (hD.ms _ hMs) (hK.ms [true, false, false, true, true] rfl) hE hS hFc hU hW⟩ rfl rfl hl.1 rfl (lv_room (Nat.le_of_ble_eq_true rfl)) dX7_hear_260 ⟨Nat.le_of_ble_eq_true rfl, Nat.le_of_ble_eq_true rfl⟩) hS (fun q _ h => hFc q h) hFc (fun r u t H locs ht hvm hw hB hz1 hk1 hS => ?_)
                        refine ex_2_2 hB (fun x_529 f_530 b_x_529 e_x_529_0 hB => ?_)
                        obtain ⟨hP, hD⟩ := Bw.goN (ws' := [(oc7 oM iM_thrown rM_tape iM_taped iM_size iM_at iM_end iM_token iM_whole iM_nameSize iM_fault iM_place iM_trouble rM_letters iM_failed iM_hasCourt rM_r rM_fresh rM_told rM_read rM_st rM_undone rM_kept iM_undos iM_images rM_fresher iM_fresherSize iM_scale iM_night rM_heardRow rM_cutRow x_520 x_529 iM_allBreaths rM_trial rM_words iM_fewestBreaths iM_orderMany iM_orderSum iM_leastOrder rM_often iM_setMany iM_someOf iM_allOf iM_allWeight iM_enoughWeight iM_worthSum iM_firstRest iM_leastDrawn), (arI rM_r kM_r 287 fM_r), (arI rM_told kM_told 90 fM_told), (arI rM_heardRow kM_heardRow 400 f_522), (arI rM_cutRow kM_cutRow 800 f_530), (arI rQ kQ 90 fQ)]) hB rfl ht hP hD _ hMs hk1 hFc rfl
                        clear hz1 hk1 hvm ht hB hMs
                        obtain ⟨x_531, rfl⟩ : ∃ z, z = r := ⟨_, rfl⟩
                        exact wq_i hx hb hr 0 ⟨trivial, trivial⟩ (fun t ht hW => ⟨x_520, x_529, f_522, f_530, b_x_520, b_x_529, (by first | omega | decide | assumption), Bw.to hP hD hK ht hW⟩) hS dX7_hear_263 hlocks
                    · skip
                      have gc_525 := ti_nle c_525 rfl rfl
                      refine lv_iload hx hb dX7_hear_236 (lv_at hl 0 rfl) ?_
                      refine lv_goto (tgt := 243) hx hb dX7_hear_238 (by decide) ?_
                      refine lv_istore (lv' := [(6, .int x_524), (10, .int x_524), (9, .int x_498), (8, .int z_487), (7, .int x_486), (5, .int x_364), (0, .ref oM), (1, .ref rQ), (2, .int p0), (3, .int p1), (4, .int p2)]) hx hb dX7_hear_243 hl (by decide) rfl (fun ls hl => ?_)
                      refine lv_iload hx hb dX7_hear_245 (lv_at hl 0 rfl) ?_
                      refine lv_iload_n hx hb dX7_hear_247 rfl (lv_at hl 9 rfl) ?_
                      refine lv_icmp_gt (tgt := 264) hx hb dX7_hear_248 (by decide) (fun c_532 => ?_) (fun c_532 => ?_)
                      · skip
                        have gc_532 := ti_lt c_532 rfl rfl
                        obtain ⟨x_533, ex_533⟩ : ∃ z : Int32, z = z_487 + Int32.ofInt 1 := ⟨_, rfl⟩
                        have vx_533 : x_533.toInt = z_487.toInt + 1 := ti_add (y := 1) ex_533 rfl kc_1 (om_4e4fce7e hi0_n_493.1) (om_d6392c09 mn_p0.2 hi0_n_493.2)
                        refine lv_iinc (v := x_533) (lv' := [(8, .int x_533), (6, .int x_524), (10, .int x_524), (9, .int x_498), (7, .int x_486), (5, .int x_364), (0, .ref oM), (1, .ref rQ), (2, .int p0), (3, .int p1), (4, .int p2)]) hx hb dX7_hear_264 hl (k := 3) rfl ex_533.symm (by decide) rfl (fun ls hl => ?_)
                        refine lv_goto (tgt := 87) hx hb dX7_hear_267 (by decide) ?_
                        exact ih_n_493 x_533 x_524 x_520 x_521 f_522 f_523 _ _ _ b_x_520 b_x_521 ⟨(om_83b90de5 hi0_n_493.1 vx_533), (om_1ad1f819 cx_486 gc_494 vx_533)⟩ (by rw [show x_533.toNatClampNeg = z_487.toNatClampNeg + 1 from (by have q_1 := ti_cl (x := x_533) vx_533 (om_9548a8fd hi0_n_493.1); have q_2 := ti_cl (x := z_487) rfl hi0_n_493.1; omega)]; omega) (ms_lt hm_n_493 (om_dd4ae0bc vx_533) (om_6d498008 cx_486 gc_494)) hP hD hS (lv_sub hl [0, 4, 1, 5, 6, 7, 8, 9, 10] rfl)
                      · skip
                        have gc_532 := ti_nlt c_532 rfl rfl
                        refine lv_aload_n hx hb dX7_hear_251 rfl (lv_at hl 6 rfl) ?_
                        refine lv_aload_n hx hb dX7_hear_252 rfl (lv_at hl 7 rfl) ?_
                        refine lv_iload_n hx hb dX7_hear_253 rfl (lv_at hl 8 rfl) ?_
                        refine lv_iload hx hb dX7_hear_254 (lv_at hl 3 rfl) ?_
                        refine lv_iconst (v := 1) hx hb dX7_hear_256 (by decide) ?_
                        refine lv_iadd hx hb dX7_hear_257 ?_
                        refine lv_topi (fun x_534 ex_534 => ?_)
                        have vx_534 : x_534.toInt = z_487.toInt + 1 := ti_add ex_534 rfl kc_1 (om_4e4fce7e hi0_n_493.1) (om_d6392c09 mn_p0.2 hi0_n_493.2)
                        refine lv_iload hx hb dX7_hear_258 (lv_at hl 0 rfl) ?_
                        have hMs := ml_of hD [true, true, false, false, true, true] (wc := [(oc7 oM iM_thrown rM_tape iM_taped iM_size iM_at iM_end iM_token iM_whole iM_nameSize iM_fault iM_place iM_trouble rM_letters iM_failed iM_hasCourt rM_r rM_fresh rM_told rM_read rM_st rM_undone rM_kept iM_undos iM_images rM_fresher iM_fresherSize iM_scale iM_night rM_heardRow rM_cutRow x_520 x_521 iM_allBreaths rM_trial rM_words iM_fewestBreaths iM_orderMany iM_orderSum iM_leastOrder rM_often iM_setMany iM_someOf iM_allOf iM_allWeight iM_enoughWeight iM_worthSum iM_firstRest iM_leastDrawn), (arI rM_r kM_r 287 fM_r), (arI rM_cutRow kM_cutRow 800 f_523), (arI rQ kQ 90 fQ)]) rfl
                        have hFc := va_freeM hD hS hA _ hMs
                        refine va_calli (va_runV (As := [.ref rQ, .int p0, .int x_534, .int x_524]) (rest := []) ⟨hx, hb, hml, hown, hts⟩ (tX7_cutFrom l dC dI _ oM iM_thrown rM_tape iM_taped iM_size iM_at iM_end iM_token iM_whole iM_nameSize iM_fault iM_place iM_trouble rM_letters iM_failed iM_hasCourt rM_r fM_r kM_r rM_fresh rM_told rM_read rM_st rM_undone rM_kept iM_undos iM_images rM_fresher iM_fresherSize iM_scale iM_night rM_heardRow rM_cutRow f_523 kM_cutRow x_520 x_521 iM_allBreaths rM_trial rM_words iM_fewestBreaths iM_orderMany iM_orderSum iM_leastOrder rM_often iM_setMany iM_someOf iM_allOf iM_allWeight iM_enoughWeight iM_worthSum iM_firstRest iM_leastDrawn rQ fQ kQ p0 x_534 x_524 b_iM_taped b_iM_size b_iM_end b_iM_failed b_iM_hasCourt b_iM_undos b_iM_images b_iM_scale b_x_520 b_x_521 (by assumption) (by assumption) (by assumption) ⟨hk0.1, hk0.2⟩ ⟨(om_83b90de5 hi0_n_493.1 vx_534), (om_1ad1f819 cx_486 gc_494 vx_534)⟩ (by first | assumption | (have q0 := kc_0; have q1 := kc_1; first | exact ⟨by omega, by omega⟩ | omega) | decide | (intro h; exact absurd h (by decide)))) (cwV 4 hts (wd_V wd_783 wd_784 wd_785 wd_5 (wd_c wd_786)) rfl rfl rfl dv_yX7_cutFrom_4 ⟨(om_8728f9b4 n9), (om_05453fa9 n9)⟩) ⟨Pw.fb, recvX7 hK hP (q0 := 0) rfl, fun U hU hW => Pw.to (hP.ms _ hMs) (hD.ms _ hMs) (hK.ms [true, false, false, true, true] rfl) hE hS hFc hU hW⟩ rfl rfl hl.1 rfl (lv_room (Nat.le_of_ble_eq_true rfl)) dX7_hear_260 ⟨Nat.le_of_ble_eq_true rfl, Nat.le_of_ble_eq_true rfl⟩) hS (fun q _ h => hFc q h) hFc (fun r u t H locs ht hvm hw hB hz1 hk1 hS => ?_)
                        refine ex_2_2 hB (fun x_535 f_536 b_x_535 e_x_535_0 hB => ?_)
                        obtain ⟨hP, hD⟩ := Bw.goN (ws' := [(oc7 oM iM_thrown rM_tape iM_taped iM_size iM_at iM_end iM_token iM_whole iM_nameSize iM_fault iM_place iM_trouble rM_letters iM_failed iM_hasCourt rM_r rM_fresh rM_told rM_read rM_st rM_undone rM_kept iM_undos iM_images rM_fresher iM_fresherSize iM_scale iM_night rM_heardRow rM_cutRow x_520 x_535 iM_allBreaths rM_trial rM_words iM_fewestBreaths iM_orderMany iM_orderSum iM_leastOrder rM_often iM_setMany iM_someOf iM_allOf iM_allWeight iM_enoughWeight iM_worthSum iM_firstRest iM_leastDrawn), (arI rM_r kM_r 287 fM_r), (arI rM_told kM_told 90 fM_told), (arI rM_heardRow kM_heardRow 400 f_522), (arI rM_cutRow kM_cutRow 800 f_536), (arI rQ kQ 90 fQ)]) hB rfl ht hP hD _ hMs hk1 hFc rfl
                        clear hz1 hk1 hvm ht hB hMs
                        obtain ⟨x_537, rfl⟩ : ∃ z, z = r := ⟨_, rfl⟩
                        exact wq_i hx hb hr 0 ⟨trivial, trivial⟩ (fun t ht hW => ⟨x_520, x_535, f_522, f_536, b_x_520, b_x_535, (by first | omega | decide | assumption), Bw.to hP hD hK ht hW⟩) hS dX7_hear_263 hlocks
                · skip
                  have gc_500 := ti_eq c_500 rfl kc_1
                  exact ((om_e3b39179 gc_366 gc_500)).elim
              · skip
                have gc_499 := ti_eq c_499 rfl kc_3
                exact ((om_51643139 gc_366 gc_499)).elim
        exact key_n_493 ((((fM_r (27 + p0.toNatClampNeg)).toInt - (0 : Int32).toInt).toNat) + 1) 0 100000000 iM_breaths iM_cutMany fM_heardRow fM_cutRow _ _ _ ⟨b_iM_breaths.1, b_iM_breaths.2⟩ ⟨b_iM_cutMany.1, b_iM_cutMany.2⟩ ⟨(om_b1de7dbe kc_0), (om_2dfe280d mn_p0.1 kc_0)⟩ (by first | (have q0 := kc_0; have q1 := kc_1; have q2 := kc_100000000; omega) | decide | assumption) (Nat.lt_add_one _) hP hD hS hl
    · skip
      have gc_365 := ti_eq c_365 rfl kc_0
      refine lv_aload_n hx hb dX7_hear_16 rfl (lv_at hl 1 rfl) ?_
      refine va_get (D := (dC, dI)) (ci := 7) (v := .ref rM_heardRow) (C := RX7) (T := TX7) (N := 48) hx hb hts inX7 hown hK hP 0 rfl rfl 28 (by decide) (hts _ wd_165) (fun _ h9 => h9) rfl dX7_hear_17 ?_
      refine lv_aload_n hx hb dX7_hear_20 rfl (lv_at hl 1 rfl) ?_
      refine va_get (D := (dC, dI)) (ci := 7) (v := .int iM_breaths) (C := RX7) (T := TX7) (N := 48) hx hb hts inX7 hown hK hP 0 rfl rfl 30 (by decide) (hts _ wd_773) (fun _ h9 => h9) rfl dX7_hear_21 ?_
      refine lv_iload_n hx hb dX7_hear_24 rfl (lv_at hl 3 rfl) ?_
      refine vz_iast hx hb hK hP hD hS 3 2 rfl rfl (ti_in rfl b_iM_breaths.1 (om_a853c676 b_iM_breaths.2)) dX7_hear_25 (fun H locs f_538 hP hD hS => ?_)
      obtain ⟨hP, hD⟩ := wl2 (ws' := [(oc7 oM iM_thrown rM_tape iM_taped iM_size iM_at iM_end iM_token iM_whole iM_nameSize iM_fault iM_place iM_trouble rM_letters iM_failed iM_hasCourt rM_r rM_fresh rM_told rM_read rM_st rM_undone rM_kept iM_undos iM_images rM_fresher iM_fresherSize iM_scale iM_night rM_heardRow rM_cutRow iM_breaths iM_cutMany iM_allBreaths rM_trial rM_words iM_fewestBreaths iM_orderMany iM_orderSum iM_leastOrder rM_often iM_setMany iM_someOf iM_allOf iM_allWeight iM_enoughWeight iM_worthSum iM_firstRest iM_leastDrawn), (arI rM_r kM_r 287 fM_r), (arI rM_told kM_told 90 fM_told), (arI rM_heardRow kM_heardRow 400 f_538), (arI rM_cutRow kM_cutRow 800 fM_cutRow), (arI rQ kQ 90 fQ)]) hP hD rfl
      refine lv_aload_n hx hb dX7_hear_26 rfl (lv_at hl 1 rfl) ?_
      refine lv_dup hx hb dX7_hear_27 rfl ?_
      refine va_get (D := (dC, dI)) (ci := 7) (v := .int iM_breaths) (C := RX7) (T := TX7) (N := 48) hx hb hts inX7 hown hK hP 0 rfl rfl 30 (by decide) (hts _ wd_773) (fun _ h9 => h9) rfl dX7_hear_28 ?_
      refine lv_iconst (v := 1) hx hb dX7_hear_31 (by decide) ?_
      refine lv_iadd hx hb dX7_hear_32 ?_
      refine lv_topi (fun x_539 ex_539 => ?_)
      have vx_539 : x_539.toInt = iM_breaths.toInt + 1 := ti_add ex_539 rfl kc_1 (om_4e4fce7e b_iM_breaths.1) (om_cf082c4c b_iM_breaths.2)
      refine va_put (D := (dC, dI)) (ci := 7) (v := .int x_539) (ty := .int) (C := RX7) (T := TX7) (N := 48) hx hb hts inX7 tyX7 tyX7_ok nmX7 hown hK hP hD hS 0 rfl rfl 30 (by decide) (hts _ wd_773) (fun _ h9 => h9) rfl (by decide +kernel) rfl rfl (Nat.le_of_ble_eq_true rfl) dX7_hear_33 (fun H locs hP hD hS => ?_)
      obtain ⟨hP, hD⟩ := wl2 (ws' := [(oc7 oM iM_thrown rM_tape iM_taped iM_size iM_at iM_end iM_token iM_whole iM_nameSize iM_fault iM_place iM_trouble rM_letters iM_failed iM_hasCourt rM_r rM_fresh rM_told rM_read rM_st rM_undone rM_kept iM_undos iM_images rM_fresher iM_fresherSize iM_scale iM_night rM_heardRow rM_cutRow x_539 iM_cutMany iM_allBreaths rM_trial rM_words iM_fewestBreaths iM_orderMany iM_orderSum iM_leastOrder rM_often iM_setMany iM_someOf iM_allOf iM_allWeight iM_enoughWeight iM_worthSum iM_firstRest iM_leastDrawn), (arI rM_r kM_r 287 fM_r), (arI rM_told kM_told 90 fM_told), (arI rM_heardRow kM_heardRow 400 f_538), (arI rM_cutRow kM_cutRow 800 fM_cutRow), (arI rQ kQ 90 fQ)]) hP hD rfl
      refine lv_aload_n hx hb dX7_hear_36 rfl (lv_at hl 2 rfl) ?_
      refine lv_bipush (v := 72) hx hb dX7_hear_37 (by decide) ?_
      refine lv_iload_n hx hb dX7_hear_39 rfl (lv_at hl 3 rfl) ?_
      refine lv_iadd hx hb dX7_hear_40 ?_
      refine lv_topi (fun x_540 ex_540 => ?_)
      have vx_540 : x_540.toInt = p0.toInt + 72 := om_2d0716db (ti_add ex_540 kc_72 rfl (om_7e97233d hk0.1) (om_f5ef1b4a hk0.2 s_nodes.2))
      refine va_iald hx hb hK hP 5 4 rfl rfl (ti_in vx_540 (om_2ad8b1ab hk0.1) (om_311d1202 hk0.2 s_nodes.2)) dX7_hear_41 ?_
      refine lv_topi (fun x_541 ex_541 => ?_)
      have kx_541 : (fQ x_540.toNatClampNeg).toInt = x_541.toInt := by rw [ex_541]
      have cx_541 : (fQ (72 + p0.toNatClampNeg)).toInt = x_541.toInt := by rw [show 72 + p0.toNatClampNeg = x_540.toNatClampNeg from (om_cbf191f8 (ti_cl (x := p0) rfl hk0.1) (ti_cl (x := x_540) vx_540 (om_2ad8b1ab hk0.1)))]; exact kx_541
      refine lv_aload_n hx hb dX7_hear_42 rfl (lv_at hl 1 rfl) ?_
      refine va_get (D := (dC, dI)) (ci := 7) (v := .int iM_scale) (C := RX7) (T := TX7) (N := 48) hx hb hts inX7 hown hK hP 0 rfl rfl 26 (by decide) (hts _ wd_163) (fun _ h9 => h9) rfl dX7_hear_43 ?_
      refine lv_imul hx hb dX7_hear_46 ?_
      refine lv_topi (fun x_542 ex_542 => ?_)
      exact wq_i hx hb hr 0 ⟨trivial, trivial⟩ (fun t ht hW => ⟨x_539, iM_cutMany, f_538, fM_cutRow, (by have q := vx_539; exact ⟨by omega, by omega⟩), ⟨b_iM_cutMany.1, b_iM_cutMany.2⟩, (by first | omega | decide | assumption), Bw.to hP hD hK ht hW⟩) hS dX7_hear_47 hlocks
theorem tX7_hear (l : Launch) (dC : Nat → ClassId) (dI : Nat → Nat → Nat) (sz : Nat) (oM : Nat) (iM_thrown : Int32) (rM_tape : Nat) (iM_taped : Int32) (iM_size : Int32) (iM_at : Int32) (iM_end : Int32) (iM_token : Int32) (iM_whole : Int32) (iM_nameSize : Int32) (iM_fault : Int32) (iM_place : Int32) (iM_trouble : Int32) (rM_letters : Nat) (iM_failed : Int32) (iM_hasCourt : Int32) (rM_r : Nat) (fM_r : Nat → Int32) (kM_r : ClassId) (rM_fresh : Nat) (rM_told : Nat) (fM_told : Nat → Int32) (kM_told : ClassId) (rM_read : Nat) (rM_st : Nat) (rM_undone : Nat) (rM_kept : Nat) (iM_undos : Int32) (iM_images : Int32) (rM_fresher : Nat) (iM_fresherSize : Int32) (iM_scale : Int32) (iM_night : Int32) (rM_heardRow : Nat) (fM_heardRow : Nat → Int32) (kM_heardRow : ClassId) (rM_cutRow : Nat) (fM_cutRow : Nat → Int32) (kM_cutRow : ClassId) (iM_breaths : Int32) (iM_cutMany : Int32) (iM_allBreaths : Int32) (rM_trial : Nat) (rM_words : Nat) (iM_fewestBreaths : Int32) (iM_orderMany : Int32) (iM_orderSum : Int32) (iM_leastOrder : Int32) (rM_often : Nat) (iM_setMany : Int32) (iM_someOf : Int32) (iM_allOf : Int32) (iM_allWeight : Int64) (iM_enoughWeight : Int64) (iM_worthSum : Int64) (iM_firstRest : Int32) (iM_leastDrawn : Int32) (rQ : Nat) (fQ : Nat → Int32) (kQ : ClassId) (p0 : Int32) (p1 : Int32) (p2 : Int32) (b_iM_taped : 0 ≤ iM_taped.toInt ∧ iM_taped.toInt ≤ 900) (b_iM_size : 0 ≤ iM_size.toInt ∧ iM_size.toInt ≤ 900) (b_iM_end : 0 ≤ iM_end.toInt ∧ iM_end.toInt ≤ 900) (b_iM_failed : 0 ≤ iM_failed.toInt ∧ iM_failed.toInt ≤ 1) (b_iM_hasCourt : 0 ≤ iM_hasCourt.toInt ∧ iM_hasCourt.toInt ≤ 1) (b_iM_undos : 0 ≤ iM_undos.toInt ∧ iM_undos.toInt ≤ 16) (b_iM_images : 0 ≤ iM_images.toInt ∧ iM_images.toInt ≤ 3) (b_iM_scale : 1 ≤ iM_scale.toInt ∧ iM_scale.toInt ≤ 1296) (b_iM_breaths : 0 ≤ iM_breaths.toInt ∧ iM_breaths.toInt ≤ 399) (b_iM_cutMany : 0 ≤ iM_cutMany.toInt ∧ iM_cutMany.toInt ≤ 399) (r_R : ROk fM_r) (r_C : iM_hasCourt.toInt ≤ 0 ∨ (1 ≤ (fM_r 1).toInt ∧ 0 ≤ (fM_r 6).toInt ∧ (fM_r 6).toInt < (fM_r 1).toInt)) (r_told : RowOk fM_r fM_told) (r_Q : RowOk fM_r fQ) (hk0 : 0 ≤ p0.toInt ∧ p0.toInt < (fM_r 1).toInt) (hbr : iM_breaths.toInt + iM_cutMany.toInt + (wgt fM_r p0.toNatClampNeg : Int) ≤ 399) : Met l yX7_hear (Cond.code yX7_hear cX7_hear 11 (some .int) :: wG) ({ frames := 19, cells := 0, slots := 0, locals := 550 }) (va_Pc [.ref oM, .ref rQ, .int p0, .int p1, .int p2] (Pw dC dI sz [(oc7 oM iM_thrown rM_tape iM_taped iM_size iM_at iM_end iM_token iM_whole iM_nameSize iM_fault iM_place iM_trouble rM_letters iM_failed iM_hasCourt rM_r rM_fresh rM_told rM_read rM_st rM_undone rM_kept iM_undos iM_images rM_fresher iM_fresherSize iM_scale iM_night rM_heardRow rM_cutRow iM_breaths iM_cutMany iM_allBreaths rM_trial rM_words iM_fewestBreaths iM_orderMany iM_orderSum iM_leastOrder rM_often iM_setMany iM_someOf iM_allOf iM_allWeight iM_enoughWeight iM_worthSum iM_firstRest iM_leastDrawn), (arI rM_r kM_r 287 fM_r), (arI rM_told kM_told 90 fM_told), (arI rM_heardRow kM_heardRow 400 fM_heardRow), (arI rM_cutRow kM_cutRow 800 fM_cutRow), (arI rQ kQ 90 fQ)] [(kM_r, .int), (kM_told, .int), (kM_heardRow, .int), (kM_cutRow, .int), (kQ, .int)])) (va_Qi (fun (r : Int32) (_ : Nat) => True ∧ True) (fun (_ : Nat) (t : State) => ∃ (niM_breaths : Int32) (niM_cutMany : Int32) (nfM_heardRow : Nat → Int32) (nfM_cutRow : Nat → Int32), (0 ≤ niM_breaths.toInt ∧ niM_breaths.toInt ≤ 399) ∧ (0 ≤ niM_cutMany.toInt ∧ niM_cutMany.toInt ≤ 399) ∧ (niM_breaths.toInt + niM_cutMany.toInt ≤ iM_breaths.toInt + iM_cutMany.toInt + (wgt fM_r p0.toNatClampNeg : Int)) ∧ Bw dC dI (va_A [(oc7 oM iM_thrown rM_tape iM_taped iM_size iM_at iM_end iM_token iM_whole iM_nameSize iM_fault iM_place iM_trouble rM_letters iM_failed iM_hasCourt rM_r rM_fresh rM_told rM_read rM_st rM_undone rM_kept iM_undos iM_images rM_fresher iM_fresherSize iM_scale iM_night rM_heardRow rM_cutRow iM_breaths iM_cutMany iM_allBreaths rM_trial rM_words iM_fewestBreaths iM_orderMany iM_orderSum iM_leastOrder rM_often iM_setMany iM_someOf iM_allOf iM_allWeight iM_enoughWeight iM_worthSum iM_firstRest iM_leastDrawn), (arI rM_r kM_r 287 fM_r), (arI rM_told kM_told 90 fM_told), (arI rM_heardRow kM_heardRow 400 fM_heardRow), (arI rM_cutRow kM_cutRow 800 fM_cutRow), (arI rQ kQ 90 fQ)] sz) [(oc7 oM iM_thrown rM_tape iM_taped iM_size iM_at iM_end iM_token iM_whole iM_nameSize iM_fault iM_place iM_trouble rM_letters iM_failed iM_hasCourt rM_r rM_fresh rM_told rM_read rM_st rM_undone rM_kept iM_undos iM_images rM_fresher iM_fresherSize iM_scale iM_night rM_heardRow rM_cutRow niM_breaths niM_cutMany iM_allBreaths rM_trial rM_words iM_fewestBreaths iM_orderMany iM_orderSum iM_leastOrder rM_often iM_setMany iM_someOf iM_allOf iM_allWeight iM_enoughWeight iM_worthSum iM_firstRest iM_leastDrawn), (arI rM_r kM_r 287 fM_r), (arI rM_told kM_told 90 fM_told), (arI rM_heardRow kM_heardRow 400 nfM_heardRow), (arI rM_cutRow kM_cutRow 800 nfM_cutRow), (arI rQ kQ 90 fQ)] [(kM_r, .int), (kM_told, .int), (kM_heardRow, .int), (kM_cutRow, .int), (kQ, .int)] t) (va_A [(oc7 oM iM_thrown rM_tape iM_taped iM_size iM_at iM_end iM_token iM_whole iM_nameSize iM_fault iM_place iM_trouble rM_letters iM_failed iM_hasCourt rM_r rM_fresh rM_told rM_read rM_st rM_undone rM_kept iM_undos iM_images rM_fresher iM_fresherSize iM_scale iM_night rM_heardRow rM_cutRow iM_breaths iM_cutMany iM_allBreaths rM_trial rM_words iM_fewestBreaths iM_orderMany iM_orderSum iM_leastOrder rM_often iM_setMany iM_someOf iM_allOf iM_allWeight iM_enoughWeight iM_worthSum iM_firstRest iM_leastDrawn), (arI rM_r kM_r 287 fM_r), (arI rM_told kM_told 90 fM_told), (arI rM_heardRow kM_heardRow 400 fM_heardRow), (arI rM_cutRow kM_cutRow 800 fM_cutRow), (arI rQ kQ 90 fQ)] sz)) 0 0 (va_A [(oc7 oM iM_thrown rM_tape iM_taped iM_size iM_at iM_end iM_token iM_whole iM_nameSize iM_fault iM_place iM_trouble rM_letters iM_failed iM_hasCourt rM_r rM_fresh rM_told rM_read rM_st rM_undone rM_kept iM_undos iM_images rM_fresher iM_fresherSize iM_scale iM_night rM_heardRow rM_cutRow iM_breaths iM_cutMany iM_allBreaths rM_trial rM_words iM_fewestBreaths iM_orderMany iM_orderSum iM_leastOrder rM_often iM_setMany iM_someOf iM_allOf iM_allWeight iM_enoughWeight iM_worthSum iM_firstRest iM_leastDrawn), (arI rM_r kM_r 287 fM_r), (arI rM_told kM_told 90 fM_told), (arI rM_heardRow kM_heardRow 400 fM_heardRow), (arI rM_cutRow kM_cutRow 800 fM_cutRow), (arI rQ kQ 90 fQ)] sz) :=
  tX7_hear_n l dC dI 18 sz oM iM_thrown rM_tape iM_taped iM_size iM_at iM_end iM_token iM_whole iM_nameSize iM_fault iM_place iM_trouble rM_letters iM_failed iM_hasCourt rM_r fM_r kM_r rM_fresh rM_told fM_told kM_told rM_read rM_st rM_undone rM_kept iM_undos iM_images rM_fresher iM_fresherSize iM_scale iM_night rM_heardRow fM_heardRow kM_heardRow rM_cutRow fM_cutRow kM_cutRow iM_breaths iM_cutMany iM_allBreaths rM_trial rM_words iM_fewestBreaths iM_orderMany iM_orderSum iM_leastOrder rM_often iM_setMany iM_someOf iM_allOf iM_allWeight iM_enoughWeight iM_worthSum iM_firstRest iM_leastDrawn rQ fQ kQ p0 p1 p2 b_iM_taped b_iM_size b_iM_end b_iM_failed b_iM_hasCourt b_iM_undos b_iM_images b_iM_scale b_iM_breaths b_iM_cutMany r_R r_C r_told r_Q hk0 hbr (by have q := r_R.nodes; omega)
