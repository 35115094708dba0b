set_option maxHeartbeats 4000000 in
set_option maxRecDepth 100000 in
theorem tX7_courtLine (l : Launch) (dC : Nat → ClassId) (dI : Nat → Nat → Nat) (sz : Nat) (oM : Nat) (iM_thrown : Int32) (rM_tape : Nat) (fM_tape : Nat → Int32) (kM_tape : ClassId) (iM_taped : Int32) (iM_size : Int32) (iM_at : Int32) (iM_end : Int32) (iM_token : Int32) (iM_whole : Int32) (iM_nameSize : Int32) (iM_fault : Int32) (iM_place : Int32) (iM_trouble : Int32) (rM_letters : Nat) (fM_letters : Nat → Int32) (kM_letters : ClassId) (iM_failed : Int32) (iM_hasCourt : Int32) (rM_r : Nat) (rM_fresh : Nat) (fM_fresh : Nat → Int32) (kM_fresh : ClassId) (rM_told : Nat) (rM_read : Nat) (fM_read : Nat → Int32) (kM_read : ClassId) (rM_st : Nat) (rM_undone : Nat) (rM_kept : Nat) (iM_undos : Int32) (iM_images : Int32) (rM_fresher : Nat) (iM_fresherSize : Int32) (iM_scale : Int32) (iM_night : Int32) (rM_heardRow : Nat) (rM_cutRow : Nat) (iM_breaths : Int32) (iM_cutMany : Int32) (iM_allBreaths : Int32) (rM_trial : Nat) (rM_words : Nat) (iM_fewestBreaths : Int32) (iM_orderMany : Int32) (iM_orderSum : Int32) (iM_leastOrder : Int32) (rM_often : Nat) (iM_setMany : Int32) (iM_someOf : Int32) (iM_allOf : Int32) (iM_allWeight : Int64) (iM_enoughWeight : Int64) (iM_worthSum : Int64) (iM_firstRest : Int32) (iM_leastDrawn : Int32) (b_iM_taped : 0 ≤ iM_taped.toInt ∧ iM_taped.toInt ≤ 900) (b_iM_size : 0 ≤ iM_size.toInt ∧ iM_size.toInt ≤ 900) (b_iM_end : 0 ≤ iM_end.toInt ∧ iM_end.toInt ≤ 900) (b_iM_nameSize : 0 ≤ iM_nameSize.toInt ∧ iM_nameSize.toInt ≤ 900) (b_iM_failed : 0 ≤ iM_failed.toInt ∧ iM_failed.toInt ≤ 1) (b_iM_hasCourt : 0 ≤ iM_hasCourt.toInt ∧ iM_hasCourt.toInt ≤ 1) (b_iM_undos : 0 ≤ iM_undos.toInt ∧ iM_undos.toInt ≤ 16) (b_iM_images : 0 ≤ iM_images.toInt ∧ iM_images.toInt ≤ 3) (b_iM_scale : 1 ≤ iM_scale.toInt ∧ iM_scale.toInt ≤ 1296) (b_iM_breaths : 0 ≤ iM_breaths.toInt ∧ iM_breaths.toInt ≤ 399) (b_iM_cutMany : 0 ≤ iM_cutMany.toInt ∧ iM_cutMany.toInt ≤ 399) (r_T : ImpP (iM_token.toInt = 2) (iM_nameSize.toInt ≤ 8)) (r_P : POk fM_fresh fM_read)  : Met l yX7_courtLine (Cond.code yX7_courtLine cX7_courtLine 1 none :: wG) ({ frames := 8, cells := 0, slots := 0, locals := 199 }) (va_Pc [.ref oM] (Pw dC dI sz [(oc7 oM iM_thrown rM_tape iM_taped iM_size iM_at iM_end iM_token iM_whole iM_nameSize iM_fault iM_place iM_trouble rM_letters iM_failed iM_hasCourt rM_r rM_fresh rM_told rM_read rM_st rM_undone rM_kept iM_undos iM_images rM_fresher iM_fresherSize iM_scale iM_night rM_heardRow rM_cutRow iM_breaths iM_cutMany iM_allBreaths rM_trial rM_words iM_fewestBreaths iM_orderMany iM_orderSum iM_leastOrder rM_often iM_setMany iM_someOf iM_allOf iM_allWeight iM_enoughWeight iM_worthSum iM_firstRest iM_leastDrawn), (arI rM_tape kM_tape 900 fM_tape), (arI rM_letters kM_letters 8 fM_letters), (arI rM_fresh kM_fresh 287 fM_fresh), (arI rM_read kM_read 90 fM_read)] [(kM_tape, .int), (kM_letters, .int), (kM_fresh, .int), (kM_read, .int)])) (va_Qv (fun (_ : Nat) => True) (fun (_ : Nat) (t : State) => ∃ (niM_at : Int32) (niM_end : Int32) (niM_token : Int32) (niM_whole : Int32) (niM_nameSize : Int32) (niM_fault : Int32) (niM_place : Int32) (niM_failed : Int32) (nfM_letters : Nat → Int32) (nfM_fresh : Nat → Int32), (0 ≤ niM_end.toInt ∧ niM_end.toInt ≤ 900) ∧ (0 ≤ niM_nameSize.toInt ∧ niM_nameSize.toInt ≤ 900) ∧ (0 ≤ niM_failed.toInt ∧ niM_failed.toInt ≤ 1) ∧ (iM_end.toInt ≤ niM_end.toInt) ∧ (ImpP (niM_token.toInt = 2) (niM_nameSize.toInt ≤ 8)) ∧ (iM_failed.toInt ≤ niM_failed.toInt) ∧ (ImpP (niM_failed.toInt ≤ 0 ∧ niM_token.toInt = 59 ) (iM_end.toInt + 1 ≤ niM_end.toInt)) ∧ (POk nfM_fresh fM_read) ∧ (PX7_courtLine fM_tape iM_size iM_at iM_end iM_token iM_whole iM_nameSize iM_fault iM_place fM_letters iM_failed fM_fresh = (niM_at, niM_end, niM_token, niM_whole, niM_nameSize, niM_fault, niM_place, niM_failed, nfM_letters, nfM_fresh)) ∧ Bw dC dI (va_A [(oc7 oM iM_thrown rM_tape iM_taped iM_size iM_at iM_end iM_token iM_whole iM_nameSize iM_fault iM_place iM_trouble rM_letters iM_failed iM_hasCourt rM_r rM_fresh rM_told rM_read rM_st rM_undone rM_kept iM_undos iM_images rM_fresher iM_fresherSize iM_scale iM_night rM_heardRow rM_cutRow iM_breaths iM_cutMany iM_allBreaths rM_trial rM_words iM_fewestBreaths iM_orderMany iM_orderSum iM_leastOrder rM_often iM_setMany iM_someOf iM_allOf iM_allWeight iM_enoughWeight iM_worthSum iM_firstRest iM_leastDrawn), (arI rM_tape kM_tape 900 fM_tape), (arI rM_letters kM_letters 8 fM_letters), (arI rM_fresh kM_fresh 287 fM_fresh), (arI rM_read kM_read 90 fM_read)] sz) [(oc7 oM iM_thrown rM_tape iM_taped iM_size niM_at niM_end niM_token niM_whole niM_nameSize niM_fault niM_place iM_trouble rM_letters niM_failed iM_hasCourt rM_r rM_fresh rM_told rM_read rM_st rM_undone rM_kept iM_undos iM_images rM_fresher iM_fresherSize iM_scale iM_night rM_heardRow rM_cutRow iM_breaths iM_cutMany iM_allBreaths rM_trial rM_words iM_fewestBreaths iM_orderMany iM_orderSum iM_leastOrder rM_often iM_setMany iM_someOf iM_allOf iM_allWeight iM_enoughWeight iM_worthSum iM_firstRest iM_leastDrawn), (arI rM_tape kM_tape 900 fM_tape), (arI rM_letters kM_letters 8 nfM_letters), (arI rM_fresh kM_fresh 287 nfM_fresh), (arI rM_read kM_read 90 fM_read)] [(kM_tape, .int), (kM_letters, .int), (kM_fresh, .int), (kM_read, .int)] t) (va_A [(oc7 oM iM_thrown rM_tape iM_taped iM_size iM_at iM_end iM_token iM_whole iM_nameSize iM_fault iM_place iM_trouble rM_letters iM_failed iM_hasCourt rM_r rM_fresh rM_told rM_read rM_st rM_undone rM_kept iM_undos iM_images rM_fresher iM_fresherSize iM_scale iM_night rM_heardRow rM_cutRow iM_breaths iM_cutMany iM_allBreaths rM_trial rM_words iM_fewestBreaths iM_orderMany iM_orderSum iM_leastOrder rM_often iM_setMany iM_someOf iM_allOf iM_allWeight iM_enoughWeight iM_worthSum iM_firstRest iM_leastDrawn), (arI rM_tape kM_tape 900 fM_tape), (arI rM_letters kM_letters 8 fM_letters), (arI rM_fresh kM_fresh 287 fM_fresh), (arI rM_read kM_read 90 fM_read)] sz)) 0 0 (va_A [(oc7 oM iM_thrown rM_tape iM_taped iM_size iM_at iM_end iM_token iM_whole iM_nameSize iM_fault iM_place iM_trouble rM_letters iM_failed iM_hasCourt rM_r rM_fresh rM_told rM_read rM_st rM_undone rM_kept iM_undos iM_images rM_fresher iM_fresherSize iM_scale iM_night rM_heardRow rM_cutRow iM_breaths iM_cutMany iM_allBreaths rM_trial rM_words iM_fewestBreaths iM_orderMany iM_orderSum iM_leastOrder rM_often iM_setMany iM_someOf iM_allOf iM_allWeight iM_enoughWeight iM_worthSum iM_firstRest iM_leastDrawn), (arI rM_tape kM_tape 900 fM_tape), (arI rM_letters kM_letters 8 fM_letters), (arI rM_fresh kM_fresh 287 fM_fresh), (arI rM_read kM_read 90 fM_read)] sz) := by
  refine Met.ofW (cc := cX7_courtLine) (maxL := 1) (ret := none) pnX7 rfl ?_
  intro p e s m args below meth c s₁ B hml hv
  obtain ⟨rfl, hsz, hP, hK, hD0, hE⟩ := hv
  have hx := B.exec
  have hb := B.bytes
  have hr := B.returns
  have hts : ∀ w ∈ wG, w.before ([.ref oM] : List Value).toArray s = true := fun w h => atoms_spec (ws := Cond.code yX7_courtLine cX7_courtLine 1 none :: wG) B.pre w (List.mem_cons_of_mem _ h)
  have hown : s.vm.findClass RX7 = some m.cls := own_of B.named rfl
  have hlocks := B.notSynchronized
  subst hsz
  have hD := hD0.self (sz := s.heap.size)
  generalize hAe : va_A [(oc7 oM iM_thrown rM_tape iM_taped iM_size iM_at iM_end iM_token iM_whole iM_nameSize iM_fault iM_place iM_trouble rM_letters iM_failed iM_hasCourt rM_r rM_fresh rM_told rM_read rM_st rM_undone rM_kept iM_undos iM_images rM_fresher iM_fresherSize iM_scale iM_night rM_heardRow rM_cutRow iM_breaths iM_cutMany iM_allBreaths rM_trial rM_words iM_fewestBreaths iM_orderMany iM_orderSum iM_leastOrder rM_often iM_setMany iM_someOf iM_allOf iM_allWeight iM_enoughWeight iM_worthSum iM_firstRest iM_leastDrawn), (arI rM_tape kM_tape 900 fM_tape), (arI rM_letters kM_letters 8 fM_letters), (arI rM_fresh kM_fresh 287 fM_fresh), (arI rM_read kM_read 90 fM_read)] s.heap.size = A at hD hE ⊢
  have hA : ∀ q : Nat, s.heap.size ≤ q → A q := fun q h => by rw [← hAe]; exact Or.inr h
  have hS : va_S A s.heap s.heap [] := va_S.rf
  have hl := lv_entry ([.ref oM]) (n := 1) (Nat.le_of_ble_eq_true rfl)
  rw [lg_entry_eq]
  generalize (lg_sl ([.ref oM]) ++ List.replicate (1 - (lg_sl ([.ref oM])).length) Slot.unset).toArray = ls at hl ⊢
  have hl : lv_has ls 1 [(0, .ref oM)] := hl
  have hG := PX7_courtLine_eq fM_tape iM_size iM_at iM_end iM_token iM_whole iM_nameSize iM_fault iM_place fM_letters iM_failed fM_fresh
  have pl_fM_fresh := r_P.lins
  refine lv_aload_n hx hb dX7_courtLine_0 rfl (lv_at hl 0 rfl) ?_
  refine va_get (D := (dC, dI)) (ci := 7) (v := .ref rM_fresh) (C := RX7) (T := TX7) (N := 48) hx hb hts inX7 hown hK hP 0 rfl rfl 16 (by decide) (hts _ wd_156) (fun _ h9 => h9) rfl dX7_courtLine_1 ?_
  refine lv_iconst (v := 5) hx hb dX7_courtLine_4 (by decide) ?_
  refine va_iald hx hb hK hP 3 2 rfl rfl (by unfold vp_in; decide) dX7_courtLine_5 ?_
  refine lv_topi (fun x_5464 ex_5464 => ?_)
  have hG := hG.trans (lt_eq ex_5464)
  have cx_5464 : (fM_fresh 5).toInt = x_5464.toInt := congrArg Int32.toInt (show fM_fresh 5 = x_5464 from ex_5464.symm)
  refine lv_if_le (tgt := 18) hx hb dX7_courtLine_6 (by decide) (fun c_5465 => ?_) (fun c_5465 => ?_)
  · skip
    have hG := hG.trans (if_pos c_5465)
    have gc_5465 := ti_le c_5465 rfl kc_0
    refine lv_aload_n hx hb dX7_courtLine_18 rfl (lv_at hl 0 rfl) ?_
    refine va_get (D := (dC, dI)) (ci := 7) (v := .int iM_failed) (C := RX7) (T := TX7) (N := 48) hx hb hts inX7 hown hK hP 0 rfl rfl 13 (by decide) (hts _ wd_380) (fun _ h9 => h9) rfl dX7_courtLine_19 ?_
    refine lv_if_eq (tgt := 26) hx hb dX7_courtLine_22 (by decide) (fun c_5466 => ?_) (fun c_5466 => ?_)
    · skip
      have hG := hG.trans (if_pos c_5466)
      have gc_5466 := ti_eq c_5466 rfl kc_0
      refine lv_aload_n hx hb dX7_courtLine_26 rfl (lv_at hl 0 rfl) ?_
      have hMs := ml_of hD [true, true, true, false, false] (wc := [(oc7 oM iM_thrown rM_tape iM_taped iM_size iM_at iM_end iM_token iM_whole iM_nameSize iM_fault iM_place iM_trouble rM_letters iM_failed iM_hasCourt rM_r rM_fresh rM_told rM_read rM_st rM_undone rM_kept iM_undos iM_images rM_fresher iM_fresherSize iM_scale iM_night rM_heardRow rM_cutRow iM_breaths iM_cutMany iM_allBreaths rM_trial rM_words iM_fewestBreaths iM_orderMany iM_orderSum iM_leastOrder rM_often iM_setMany iM_someOf iM_allOf iM_allWeight iM_enoughWeight iM_worthSum iM_firstRest iM_leastDrawn), (arI rM_tape kM_tape 900 fM_tape), (arI rM_letters kM_letters 8 fM_letters)]) rfl
      have hFc := va_freeM hD hS hA _ hMs
      refine va_callv (va_runV (As := []) (rest := []) ⟨hx, hb, hml, hown, hts⟩ (tX7_next l dC dI _ oM iM_thrown rM_tape fM_tape kM_tape iM_taped iM_size iM_at iM_end iM_token iM_whole iM_nameSize iM_fault iM_place iM_trouble rM_letters fM_letters kM_letters iM_failed iM_hasCourt rM_r rM_fresh rM_told rM_read rM_st rM_undone rM_kept iM_undos iM_images rM_fresher iM_fresherSize iM_scale iM_night rM_heardRow rM_cutRow iM_breaths iM_cutMany iM_allBreaths rM_trial rM_words iM_fewestBreaths iM_orderMany iM_orderSum iM_leastOrder rM_often iM_setMany iM_someOf iM_allOf iM_allWeight iM_enoughWeight iM_worthSum iM_firstRest iM_leastDrawn b_iM_taped b_iM_size b_iM_end b_iM_nameSize b_iM_failed b_iM_hasCourt b_iM_undos b_iM_images b_iM_scale b_iM_breaths b_iM_cutMany r_T) (cwV 0 hts (wd_V wd_400 wd_401 wd_402 wd_5 (wd_c wd_403)) rfl rfl rfl dv_yX7_next_0 ⟨Nat.le_of_ble_eq_true rfl, Nat.le_of_ble_eq_true rfl⟩) ⟨Pw.fb, recvX7 hK hP (q0 := 0) rfl, fun U hU hW => Pw.to (hP.ms _ hMs) (hD.ms _ hMs) (hK.ms [true, true, false, false] rfl) hE hS hFc hU hW⟩ rfl rfl hl.1 rfl (lv_room (Nat.le_of_ble_eq_true rfl)) dX7_courtLine_27 ⟨Nat.le_of_ble_eq_true rfl, Nat.le_of_ble_eq_true rfl⟩) hS (fun q _ h => hFc q h) hFc (fun u t H locs ht hvm hw hB hz1 hk1 hS => ?_)
      refine ex_6_6 hB (fun x_5467 x_5468 x_5469 x_5470 x_5471 f_5472 b_x_5468 b_x_5471 e_x_5467_0 e_x_5467_1 e_x_5467_2 e_x_5467_3 hB => ?_)
      obtain ⟨hP, hD⟩ := Bw.goN (ws' := [(oc7 oM iM_thrown rM_tape iM_taped iM_size x_5467 x_5468 x_5469 x_5470 x_5471 iM_fault iM_place iM_trouble rM_letters iM_failed iM_hasCourt rM_r rM_fresh rM_told rM_read rM_st rM_undone rM_kept iM_undos iM_images rM_fresher iM_fresherSize iM_scale iM_night rM_heardRow rM_cutRow iM_breaths iM_cutMany iM_allBreaths rM_trial rM_words iM_fewestBreaths iM_orderMany iM_orderSum iM_leastOrder rM_often iM_setMany iM_someOf iM_allOf iM_allWeight iM_enoughWeight iM_worthSum iM_firstRest iM_leastDrawn), (arI rM_tape kM_tape 900 fM_tape), (arI rM_letters kM_letters 8 f_5472), (arI rM_fresh kM_fresh 287 fM_fresh), (arI rM_read kM_read 90 fM_read)]) hB rfl ht hP hD _ hMs hk1 hFc rfl
      clear hz1 hk1 hvm ht hB hMs
      have hG := hG.trans (un6_eq e_x_5467_3)
      clear r_T
      refine lv_aload_n hx hb dX7_courtLine_30 rfl (lv_at hl 0 rfl) ?_
      refine va_get (D := (dC, dI)) (ci := 7) (v := .ref rM_fresh) (C := RX7) (T := TX7) (N := 48) hx hb hts inX7 hown hK hP 0 rfl rfl 16 (by decide) (hts _ wd_156) (fun _ h9 => h9) rfl dX7_courtLine_31 ?_
      refine lv_iconst (v := 0) hx hb dX7_courtLine_34 (by decide) ?_
      refine lv_aload_n hx hb dX7_courtLine_35 rfl (lv_at hl 0 rfl) ?_
      obtain ⟨sa_5473, vsa_5473, nsa_5473, fsa_5473, hnsa_5473, hnesa_5473, hfesa_5473, hRsa_5473, hSsa_5473⟩ := hE.2.2.1 (222, "slips", [115, 108, 105, 112, 115]) (by decide)
      have hG := hG.trans (lt_eq hnesa_5473)
      have hG := hG.trans (lt_eq hfesa_5473)
      refine va_ldcS hx hb hown hRsa_5473 dX7_courtLine_36 ?_
      refine lv_iconst (v := 0) hx hb dX7_courtLine_38 (by decide) ?_
      refine lv_bipush (v := 100) hx hb dX7_courtLine_39 (by decide) ?_
      have hMs := ml_of hD [true, true, true, false, false] (wc := [(oc7 oM iM_thrown rM_tape iM_taped iM_size x_5467 x_5468 x_5469 x_5470 x_5471 iM_fault iM_place iM_trouble rM_letters iM_failed iM_hasCourt rM_r rM_fresh rM_told rM_read rM_st rM_undone rM_kept iM_undos iM_images rM_fresher iM_fresherSize iM_scale iM_night rM_heardRow rM_cutRow iM_breaths iM_cutMany iM_allBreaths rM_trial rM_words iM_fewestBreaths iM_orderMany iM_orderSum iM_leastOrder rM_often iM_setMany iM_someOf iM_allOf iM_allWeight iM_enoughWeight iM_worthSum iM_firstRest iM_leastDrawn), (arI rM_tape kM_tape 900 fM_tape), (arI rM_letters kM_letters 8 f_5472)]) rfl
      have hFc := va_freeM hD hS hA _ hMs
      refine va_calli (va_runV (As := [.ref sa_5473, .int 0, .int 100]) (rest := [.int 0, .ref rM_fresh]) ⟨hx, hb, hml, hown, hts⟩ (tX7_after l dC dI _ oM iM_thrown rM_tape fM_tape kM_tape iM_taped iM_size x_5467 x_5468 x_5469 x_5470 x_5471 iM_fault iM_place iM_trouble rM_letters f_5472 kM_letters iM_failed iM_hasCourt rM_r rM_fresh rM_told rM_read rM_st rM_undone rM_kept iM_undos iM_images rM_fresher iM_fresherSize iM_scale iM_night rM_heardRow rM_cutRow iM_breaths iM_cutMany iM_allBreaths rM_trial rM_words iM_fewestBreaths iM_orderMany iM_orderSum iM_leastOrder rM_often iM_setMany iM_someOf iM_allOf iM_allWeight iM_enoughWeight iM_worthSum iM_firstRest iM_leastDrawn sa_5473 0 100 vsa_5473 nsa_5473 fsa_5473 b_iM_taped b_iM_size b_x_5468 b_x_5471 b_iM_failed b_iM_hasCourt b_iM_undos b_iM_images b_iM_scale b_iM_breaths b_iM_cutMany e_x_5467_1 (Nat.le_trans (Nat.le_of_eq hnesa_5473) (by decide)) (om_f028b7c4 kc_0 kc_100)) (cwV 3 hts (wd_V wd_434 wd_435 wd_436 wd_5 (wd_c wd_437)) rfl rfl rfl dv_yX7_after_3 ⟨Nat.le_of_ble_eq_true rfl, Nat.le_of_ble_eq_true rfl⟩) ⟨Pq.fb, recvX7 hK hP (q0 := 0) rfl, fun U hU hW => Pq.to (hP.ms _ hMs) (hD.ms _ hMs) (hK.ms [true, true, false, false] rfl) hSsa_5473 hE hS hFc hU hW⟩ rfl rfl hl.1 rfl (lv_room (Nat.le_of_ble_eq_true rfl)) dX7_courtLine_41 ⟨Nat.le_of_ble_eq_true rfl, Nat.le_of_ble_eq_true rfl⟩) hS (fun q _ h => hFc q h) hFc (fun r u t H locs ht hvm hw hB hz1 hk1 hS => ?_)
      have hru9 := hw.2
      have hw := hw.1
      refine ex_9_8 hB (fun x_5474 x_5475 x_5476 x_5477 x_5478 x_5479 x_5480 x_5481 f_5482 b_x_5475 b_x_5478 b_x_5481 e_x_5474_0 e_x_5474_1 e_x_5474_2 e_x_5474_3 e_x_5474_4 hB => ?_)
      obtain ⟨hP, hD⟩ := Bw.goN (ws' := [(oc7 oM iM_thrown rM_tape iM_taped iM_size x_5474 x_5475 x_5476 x_5477 x_5478 x_5479 x_5480 iM_trouble rM_letters x_5481 iM_hasCourt rM_r rM_fresh rM_told rM_read rM_st rM_undone rM_kept iM_undos iM_images rM_fresher iM_fresherSize iM_scale iM_night rM_heardRow rM_cutRow iM_breaths iM_cutMany iM_allBreaths rM_trial rM_words iM_fewestBreaths iM_orderMany iM_orderSum iM_leastOrder rM_often iM_setMany iM_someOf iM_allOf iM_allWeight iM_enoughWeight iM_worthSum iM_firstRest iM_leastDrawn), (arI rM_tape kM_tape 900 fM_tape), (arI rM_letters kM_letters 8 f_5482), (arI rM_fresh kM_fresh 287 fM_fresh), (arI rM_read kM_read 90 fM_read)]) hB rfl ht hP hD _ hMs hk1 hFc rfl
      clear hz1 hk1 hvm ht hB hMs
      rw [← hru9] at e_x_5474_4
      obtain ⟨x_5483, rfl⟩ : ∃ z, z = r := ⟨_, rfl⟩
      have hG := hG.trans (un10_eq e_x_5474_4)
      have lx_5483 := hw.2
      have kl_0 := kc_0
      have kl_100 := kc_100
      clear e_x_5467_1
      clear e_x_5467_2
      refine va_iast hx hb hK hP hD hS 3 2 rfl rfl (by unfold vp_in; decide) dX7_courtLine_44 (fun H locs hP hD hS => ?_)
      obtain ⟨f_5484, ef_5484⟩ : ∃ g : Nat → Int32, g = upd fM_fresh (0 : Int32).toNatClampNeg x_5483 := ⟨_, rfl⟩
      rw [← ef_5484] at hP hD
      have hG := hG.trans (lt_eq ef_5484)
      obtain ⟨hP, hD⟩ := wl2 (ws' := [(oc7 oM iM_thrown rM_tape iM_taped iM_size x_5474 x_5475 x_5476 x_5477 x_5478 x_5479 x_5480 iM_trouble rM_letters x_5481 iM_hasCourt rM_r rM_fresh rM_told rM_read rM_st rM_undone rM_kept iM_undos iM_images rM_fresher iM_fresherSize iM_scale iM_night rM_heardRow rM_cutRow iM_breaths iM_cutMany iM_allBreaths rM_trial rM_words iM_fewestBreaths iM_orderMany iM_orderSum iM_leastOrder rM_often iM_setMany iM_someOf iM_allOf iM_allWeight iM_enoughWeight iM_worthSum iM_firstRest iM_leastDrawn), (arI rM_tape kM_tape 900 fM_tape), (arI rM_letters kM_letters 8 f_5482), (arI rM_fresh kM_fresh 287 f_5484), (arI rM_read kM_read 90 fM_read)]) hP hD rfl
      have pk_f_5484 : POk f_5484 fM_read := POk.put r_P ef_5484 (Or.inl (by have q9 : ((0 : Int32).toNatClampNeg : Nat) = 0 := rfl; omega))
      have pl_f_5484 := pk_f_5484.lins
      refine lv_aload_n hx hb dX7_courtLine_45 rfl (lv_at hl 0 rfl) ?_
      refine va_get (D := (dC, dI)) (ci := 7) (v := .int x_5481) (C := RX7) (T := TX7) (N := 48) hx hb hts inX7 hown hK hP 0 rfl rfl 13 (by decide) (hts _ wd_380) (fun _ h9 => h9) rfl dX7_courtLine_46 ?_
      refine lv_if_ne (tgt := 59) hx hb dX7_courtLine_49 (by decide) (fun c_5485 => ?_) (fun c_5485 => ?_)
      · skip
        have hG := hG.trans (if_neg c_5485)
        have gc_5485 := ti_ne c_5485 rfl kc_0
        replace gc_5485 : (-1) * x_5481.toInt + 1 ≤ 0 := om_e3003f79 gc_5485 b_x_5481.1
        exact wq_v hx hb hr 0 trivial (fun t ht hW => ⟨x_5474, x_5475, x_5476, x_5477, x_5478, x_5479, x_5480, x_5481, f_5482, f_5484, b_x_5475, b_x_5478, b_x_5481, (om_9348f5ae e_x_5467_0 e_x_5474_0), e_x_5474_1, (om_1fc3dec6 gc_5466 b_x_5481.1), (fun h9 => False.elim (om_a5fe015d gc_5485 h9.1)), pk_f_5484, hG, Bw.to hP hD hK ht hW⟩) hS dX7_courtLine_59 hlocks
      · skip
        have hG := hG.trans (if_pos c_5485)
        have gc_5485 := ti_eq c_5485 rfl kc_0
        refine lv_aload_n hx hb dX7_courtLine_52 rfl (lv_at hl 0 rfl) ?_
        refine va_get (D := (dC, dI)) (ci := 7) (v := .ref rM_fresh) (C := RX7) (T := TX7) (N := 48) hx hb hts inX7 hown hK hP 0 rfl rfl 16 (by decide) (hts _ wd_156) (fun _ h9 => h9) rfl dX7_courtLine_53 ?_
        refine lv_iconst (v := 5) hx hb dX7_courtLine_56 (by decide) ?_
        refine lv_iconst (v := 1) hx hb dX7_courtLine_57 (by decide) ?_
        refine va_iast hx hb hK hP hD hS 3 2 rfl rfl (by unfold vp_in; decide) dX7_courtLine_58 (fun H locs hP hD hS => ?_)
        obtain ⟨f_5486, ef_5486⟩ : ∃ g : Nat → Int32, g = upd f_5484 (5 : Int32).toNatClampNeg (1 : Int32) := ⟨_, rfl⟩
        rw [← ef_5486] at hP hD
        have hG := hG.trans (lt_eq ef_5486)
        obtain ⟨hP, hD⟩ := wl2 (ws' := [(oc7 oM iM_thrown rM_tape iM_taped iM_size x_5474 x_5475 x_5476 x_5477 x_5478 x_5479 x_5480 iM_trouble rM_letters x_5481 iM_hasCourt rM_r rM_fresh rM_told rM_read rM_st rM_undone rM_kept iM_undos iM_images rM_fresher iM_fresherSize iM_scale iM_night rM_heardRow rM_cutRow iM_breaths iM_cutMany iM_allBreaths rM_trial rM_words iM_fewestBreaths iM_orderMany iM_orderSum iM_leastOrder rM_often iM_setMany iM_someOf iM_allOf iM_allWeight iM_enoughWeight iM_worthSum iM_firstRest iM_leastDrawn), (arI rM_tape kM_tape 900 fM_tape), (arI rM_letters kM_letters 8 f_5482), (arI rM_fresh kM_fresh 287 f_5486), (arI rM_read kM_read 90 fM_read)]) hP hD rfl
        have pk_f_5486 : POk f_5486 fM_read := POk.put pk_f_5484 ef_5486 (Or.inr (Or.inr (Or.inl (by have q9 : ((5 : Int32).toNatClampNeg : Nat) = 5 := rfl; have q8 := kc_1; omega))))
        have pl_f_5486 := pk_f_5486.lins
        exact wq_v hx hb hr 0 trivial (fun t ht hW => ⟨x_5474, x_5475, x_5476, x_5477, x_5478, x_5479, x_5480, x_5481, f_5482, f_5486, b_x_5475, b_x_5478, b_x_5481, (om_9348f5ae e_x_5467_0 e_x_5474_0), e_x_5474_1, (om_1fc3dec6 gc_5466 b_x_5481.1), (fun h9 => (om_7ed234da e_x_5467_0 (e_x_5474_3 ⟨(om_02e9bb08 gc_5485), h9.2⟩))), pk_f_5486, hG, Bw.to hP hD hK ht hW⟩) hS dX7_courtLine_59 hlocks
    · skip
      have hG := hG.trans (if_neg c_5466)
      have gc_5466 := ti_ne c_5466 rfl kc_0
      replace gc_5466 : (-1) * iM_failed.toInt + 1 ≤ 0 := om_e3003f79 gc_5466 b_iM_failed.1
      exact wq_v hx hb hr 0 trivial (fun t ht hW => ⟨iM_at, iM_end, iM_token, iM_whole, iM_nameSize, iM_fault, iM_place, iM_failed, fM_letters, fM_fresh, ⟨b_iM_end.1, b_iM_end.2⟩, ⟨b_iM_nameSize.1, b_iM_nameSize.2⟩, ⟨b_iM_failed.1, b_iM_failed.2⟩, om_1cb5f934, r_T, om_1cb5f934, (fun h9 => False.elim (om_a5fe015d gc_5466 h9.1)), r_P, hG, Bw.to hP hD hK ht hW⟩) hS dX7_courtLine_25 hlocks
  · skip
    have hG := hG.trans (if_neg c_5465)
    have gc_5465 := ti_nle c_5465 rfl kc_0
    refine lv_aload_n hx hb dX7_courtLine_9 rfl (lv_at hl 0 rfl) ?_
    refine lv_iconst (v := 3) hx hb dX7_courtLine_10 (by decide) ?_
    refine lv_aload_n hx hb dX7_courtLine_11 rfl (lv_at hl 0 rfl) ?_
    refine va_get (D := (dC, dI)) (ci := 7) (v := .int iM_at) (C := RX7) (T := TX7) (N := 48) hx hb hts inX7 hown hK hP 0 rfl rfl 4 (by decide) (hts _ wd_384) (fun _ h9 => h9) rfl dX7_courtLine_12 ?_
    have hMs := ml_of hD [true, false, false, false, false] (wc := [(oc7 oM iM_thrown rM_tape iM_taped iM_size iM_at iM_end iM_token iM_whole iM_nameSize iM_fault iM_place iM_trouble rM_letters iM_failed iM_hasCourt rM_r rM_fresh rM_told rM_read rM_st rM_undone rM_kept iM_undos iM_images rM_fresher iM_fresherSize iM_scale iM_night rM_heardRow rM_cutRow iM_breaths iM_cutMany iM_allBreaths rM_trial rM_words iM_fewestBreaths iM_orderMany iM_orderSum iM_leastOrder rM_often iM_setMany iM_someOf iM_allOf iM_allWeight iM_enoughWeight iM_worthSum iM_firstRest iM_leastDrawn)]) rfl
    have hFc := va_freeM hD hS hA _ hMs
    refine va_callv (va_runV (As := [.int 3, .int iM_at]) (rest := []) ⟨hx, hb, hml, hown, hts⟩ (tX7_wrong l dC dI _ oM iM_thrown rM_tape iM_taped iM_size iM_at iM_end iM_token iM_whole iM_nameSize iM_fault iM_place iM_trouble rM_letters iM_failed iM_hasCourt rM_r rM_fresh rM_told rM_read rM_st rM_undone rM_kept iM_undos iM_images rM_fresher iM_fresherSize iM_scale iM_night rM_heardRow rM_cutRow iM_breaths iM_cutMany iM_allBreaths rM_trial rM_words iM_fewestBreaths iM_orderMany iM_orderSum iM_leastOrder rM_often iM_setMany iM_someOf iM_allOf iM_allWeight iM_enoughWeight iM_worthSum iM_firstRest iM_leastDrawn 3 iM_at b_iM_taped b_iM_size b_iM_end b_iM_nameSize b_iM_failed b_iM_hasCourt b_iM_undos b_iM_images b_iM_scale b_iM_breaths b_iM_cutMany r_T) (cwV 2 hts (wd_V wd_430 wd_431 wd_432 wd_5 (wd_c wd_433)) rfl rfl rfl dv_yX7_wrong_2 ⟨Nat.le_of_ble_eq_true rfl, Nat.le_of_ble_eq_true rfl⟩) ⟨Pw.fb, recvX7 hK hP (q0 := 0) rfl, fun U hU hW => Pw.to (hP.ms _ hMs) (hD.ms _ hMs) (hK.ms [false, false, false, false] rfl) hE hS hFc hU hW⟩ rfl rfl hl.1 rfl (lv_room (Nat.le_of_ble_eq_true rfl)) dX7_courtLine_15 ⟨Nat.le_of_ble_eq_true rfl, Nat.le_of_ble_eq_true rfl⟩) hS (fun q _ h => hFc q h) hFc (fun u t H locs ht hvm hw hB hz1 hk1 hS => ?_)
    refine ex_3_3 hB (fun x_5487 x_5488 x_5489 b_x_5489 e_x_5487_0 e_x_5487_1 hB => ?_)
    obtain ⟨hP, hD⟩ := Bw.goN (ws' := [(oc7 oM iM_thrown rM_tape iM_taped iM_size iM_at iM_end iM_token iM_whole iM_nameSize x_5487 x_5488 iM_trouble rM_letters x_5489 iM_hasCourt rM_r rM_fresh rM_told rM_read rM_st rM_undone rM_kept iM_undos iM_images rM_fresher iM_fresherSize iM_scale iM_night rM_heardRow rM_cutRow iM_breaths iM_cutMany iM_allBreaths rM_trial rM_words iM_fewestBreaths iM_orderMany iM_orderSum iM_leastOrder rM_often iM_setMany iM_someOf iM_allOf iM_allWeight iM_enoughWeight iM_worthSum iM_firstRest iM_leastDrawn), (arI rM_tape kM_tape 900 fM_tape), (arI rM_letters kM_letters 8 fM_letters), (arI rM_fresh kM_fresh 287 fM_fresh), (arI rM_read kM_read 90 fM_read)]) hB rfl ht hP hD _ hMs hk1 hFc rfl
    clear hz1 hk1 hvm ht hB hMs
    have hG := hG.trans (un3_eq e_x_5487_1)
    refine lv_aload_n hx hb dX7_courtLine_18 rfl (lv_at hl 0 rfl) ?_
    refine va_get (D := (dC, dI)) (ci := 7) (v := .int x_5489) (C := RX7) (T := TX7) (N := 48) hx hb hts inX7 hown hK hP 0 rfl rfl 13 (by decide) (hts _ wd_380) (fun _ h9 => h9) rfl dX7_courtLine_19 ?_
    refine lv_if_eq (tgt := 26) hx hb dX7_courtLine_22 (by decide) (fun c_5490 => ?_) (fun c_5490 => ?_)
    · skip
      have hG := hG.trans (if_pos c_5490)
      have gc_5490 := ti_eq c_5490 rfl kc_0
      exact ((om_b1155cdc e_x_5487_0 gc_5490)).elim
    · skip
      have hG := hG.trans (if_neg c_5490)
      have gc_5490 := ti_ne c_5490 rfl kc_0
      replace gc_5490 : (-1) * x_5489.toInt + 1 ≤ 0 := om_e3003f79 gc_5490 b_x_5489.1
      exact wq_v hx hb hr 0 trivial (fun t ht hW => ⟨iM_at, iM_end, iM_token, iM_whole, iM_nameSize, x_5487, x_5488, x_5489, fM_letters, fM_fresh, ⟨b_iM_end.1, b_iM_end.2⟩, ⟨b_iM_nameSize.1, b_iM_nameSize.2⟩, b_x_5489, om_1cb5f934, r_T, (om_00f1c5dd b_iM_failed.2 e_x_5487_0), (fun h9 => False.elim (om_92495247 e_x_5487_0 h9.1)), r_P, hG, Bw.to hP hD hK ht hW⟩) hS dX7_courtLine_25 hlocks
set_option maxHeartbeats 4000000 in
set_option maxRecDepth 100000 in
theorem tX7_wordLine (l : Launch) (dC : Nat → ClassId) (dI : Nat → Nat → Nat) (sz : Nat) (oM : Nat) (iM_thrown : Int32) (rM_tape : Nat) (fM_tape : Nat → Int32) (kM_tape : ClassId) (iM_taped : Int32) (iM_size : Int32) (iM_at : Int32) (iM_end : Int32) (iM_token : Int32) (iM_whole : Int32) (iM_nameSize : Int32) (iM_fault : Int32) (iM_place : Int32) (iM_trouble : Int32) (rM_letters : Nat) (fM_letters : Nat → Int32) (kM_letters : ClassId) (iM_failed : Int32) (iM_hasCourt : Int32) (rM_r : Nat) (rM_fresh : Nat) (fM_fresh : Nat → Int32) (kM_fresh : ClassId) (rM_told : Nat) (rM_read : Nat) (fM_read : Nat → Int32) (kM_read : ClassId) (rM_st : Nat) (rM_undone : Nat) (rM_kept : Nat) (iM_undos : Int32) (iM_images : Int32) (rM_fresher : Nat) (fM_fresher : Nat → Int32) (kM_fresher : ClassId) (iM_fresherSize : Int32) (iM_scale : Int32) (iM_night : Int32) (rM_heardRow : Nat) (rM_cutRow : Nat) (iM_breaths : Int32) (iM_cutMany : Int32) (iM_allBreaths : Int32) (rM_trial : Nat) (rM_words : Nat) (iM_fewestBreaths : Int32) (iM_orderMany : Int32) (iM_orderSum : Int32) (iM_leastOrder : Int32) (rM_often : Nat) (iM_setMany : Int32) (iM_someOf : Int32) (iM_allOf : Int32) (iM_allWeight : Int64) (iM_enoughWeight : Int64) (iM_worthSum : Int64) (iM_firstRest : Int32) (iM_leastDrawn : Int32) (b_iM_taped : 0 ≤ iM_taped.toInt ∧ iM_taped.toInt ≤ 900) (b_iM_size : 0 ≤ iM_size.toInt ∧ iM_size.toInt ≤ 900) (b_iM_end : 0 ≤ iM_end.toInt ∧ iM_end.toInt ≤ 900) (b_iM_nameSize : 0 ≤ iM_nameSize.toInt ∧ iM_nameSize.toInt ≤ 900) (b_iM_failed : 0 ≤ iM_failed.toInt ∧ iM_failed.toInt ≤ 1) (b_iM_hasCourt : 0 ≤ iM_hasCourt.toInt ∧ iM_hasCourt.toInt ≤ 1) (b_iM_undos : 0 ≤ iM_undos.toInt ∧ iM_undos.toInt ≤ 16) (b_iM_images : 0 ≤ iM_images.toInt ∧ iM_images.toInt ≤ 3) (b_iM_scale : 1 ≤ iM_scale.toInt ∧ iM_scale.toInt ≤ 1296) (b_iM_breaths : 0 ≤ iM_breaths.toInt ∧ iM_breaths.toInt ≤ 399) (b_iM_cutMany : 0 ≤ iM_cutMany.toInt ∧ iM_cutMany.toInt ≤ 399) (r_T : ImpP (iM_token.toInt = 2) (iM_nameSize.toInt ≤ 8)) (r_P : POk fM_fresh fM_read) (hwl : ImpP (iM_failed.toInt ≤ 0) ((fM_fresh 2).toInt ≤ 9)) : Met l yX7_wordLine (Cond.code yX7_wordLine cX7_wordLine 2 none :: wG) ({ frames := 8, cells := 0, slots := 0, locals := 199 }) (va_Pc [.ref oM] (Pw dC dI sz [(oc7 oM iM_thrown rM_tape iM_taped iM_size iM_at iM_end iM_token iM_whole iM_nameSize iM_fault iM_place iM_trouble rM_letters iM_failed iM_hasCourt rM_r rM_fresh rM_told rM_read rM_st rM_undone rM_kept iM_undos iM_images rM_fresher iM_fresherSize iM_scale iM_night rM_heardRow rM_cutRow iM_breaths iM_cutMany iM_allBreaths rM_trial rM_words iM_fewestBreaths iM_orderMany iM_orderSum iM_leastOrder rM_often iM_setMany iM_someOf iM_allOf iM_allWeight iM_enoughWeight iM_worthSum iM_firstRest iM_leastDrawn), (arI rM_tape kM_tape 900 fM_tape), (arI rM_letters kM_letters 8 fM_letters), (arI rM_fresh kM_fresh 287 fM_fresh), (arI rM_read kM_read 90 fM_read), (arI rM_fresher kM_fresher 8 fM_fresher)] [(kM_tape, .int), (kM_letters, .int), (kM_fresh, .int), (kM_read, .int), (kM_fresher, .int)])) (va_Qv (fun (_ : Nat) => True) (fun (_ : Nat) (t : State) => ∃ (niM_at : Int32) (niM_end : Int32) (niM_token : Int32) (niM_whole : Int32) (niM_nameSize : Int32) (niM_fault : Int32) (niM_place : Int32) (niM_failed : Int32) (niM_fresherSize : Int32) (nfM_letters : Nat → Int32) (nfM_fresh : Nat → Int32) (nfM_read : Nat → Int32) (nfM_fresher : Nat → Int32), (0 ≤ niM_end.toInt ∧ niM_end.toInt ≤ 900) ∧ (0 ≤ niM_nameSize.toInt ∧ niM_nameSize.toInt ≤ 900) ∧ (0 ≤ niM_failed.toInt ∧ niM_failed.toInt ≤ 1) ∧ (iM_end.toInt ≤ niM_end.toInt) ∧ (ImpP (niM_token.toInt = 2) (niM_nameSize.toInt ≤ 8)) ∧ (iM_failed.toInt ≤ niM_failed.toInt) ∧ (ImpP (niM_failed.toInt ≤ 0 ∧ niM_token.toInt = 59 ) (iM_end.toInt + 1 ≤ niM_end.toInt)) ∧ (POk nfM_fresh nfM_read) ∧ (PX7_wordLine fM_tape iM_size iM_at iM_end iM_token iM_whole iM_nameSize iM_fault iM_place fM_letters iM_failed fM_fresh fM_read fM_fresher iM_fresherSize = (niM_at, niM_end, niM_token, niM_whole, niM_nameSize, niM_fault, niM_place, niM_failed, niM_fresherSize, nfM_letters, nfM_fresh, nfM_read, nfM_fresher)) ∧ Bw dC dI (va_A [(oc7 oM iM_thrown rM_tape iM_taped iM_size iM_at iM_end iM_token iM_whole iM_nameSize iM_fault iM_place iM_trouble rM_letters iM_failed iM_hasCourt rM_r rM_fresh rM_told rM_read rM_st rM_undone rM_kept iM_undos iM_images rM_fresher iM_fresherSize iM_scale iM_night rM_heardRow rM_cutRow iM_breaths iM_cutMany iM_allBreaths rM_trial rM_words iM_fewestBreaths iM_orderMany iM_orderSum iM_leastOrder rM_often iM_setMany iM_someOf iM_allOf iM_allWeight iM_enoughWeight iM_worthSum iM_firstRest iM_leastDrawn), (arI rM_tape kM_tape 900 fM_tape), (arI rM_letters kM_letters 8 fM_letters), (arI rM_fresh kM_fresh 287 fM_fresh), (arI rM_read kM_read 90 fM_read), (arI rM_fresher kM_fresher 8 fM_fresher)] sz) [(oc7 oM iM_thrown rM_tape iM_taped iM_size niM_at niM_end niM_token niM_whole niM_nameSize niM_fault niM_place iM_trouble rM_letters niM_failed iM_hasCourt rM_r rM_fresh rM_told rM_read rM_st rM_undone rM_kept iM_undos iM_images rM_fresher niM_fresherSize iM_scale iM_night rM_heardRow rM_cutRow iM_breaths iM_cutMany iM_allBreaths rM_trial rM_words iM_fewestBreaths iM_orderMany iM_orderSum iM_leastOrder rM_often iM_setMany iM_someOf iM_allOf iM_allWeight iM_enoughWeight iM_worthSum iM_firstRest iM_leastDrawn), (arI rM_tape kM_tape 900 fM_tape), (arI rM_letters kM_letters 8 nfM_letters), (arI rM_fresh kM_fresh 287 nfM_fresh), (arI rM_read kM_read 90 nfM_read), (arI rM_fresher kM_fresher 8 nfM_fresher)] [(kM_tape, .int), (kM_letters, .int), (kM_fresh, .int), (kM_read, .int), (kM_fresher, .int)] t) (va_A [(oc7 oM iM_thrown rM_tape iM_taped iM_size iM_at iM_end iM_token iM_whole iM_nameSize iM_fault iM_place iM_trouble rM_letters iM_failed iM_hasCourt rM_r rM_fresh rM_told rM_read rM_st rM_undone rM_kept iM_undos iM_images rM_fresher iM_fresherSize iM_scale iM_night rM_heardRow rM_cutRow iM_breaths iM_cutMany iM_allBreaths rM_trial rM_words iM_fewestBreaths iM_orderMany iM_orderSum iM_leastOrder rM_often iM_setMany iM_someOf iM_allOf iM_allWeight iM_enoughWeight iM_worthSum iM_firstRest iM_leastDrawn), (arI rM_tape kM_tape 900 fM_tape), (arI rM_letters kM_letters 8 fM_letters), (arI rM_fresh kM_fresh 287 fM_fresh), (arI rM_read kM_read 90 fM_read), (arI rM_fresher kM_fresher 8 fM_fresher)] sz)) 0 0 (va_A [(oc7 oM iM_thrown rM_tape iM_taped iM_size iM_at iM_end iM_token iM_whole iM_nameSize iM_fault iM_place iM_trouble rM_letters iM_failed iM_hasCourt rM_r rM_fresh rM_told rM_read rM_st rM_undone rM_kept iM_undos iM_images rM_fresher iM_fresherSize iM_scale iM_night rM_heardRow rM_cutRow iM_breaths iM_cutMany iM_allBreaths rM_trial rM_words iM_fewestBreaths iM_orderMany iM_orderSum iM_leastOrder rM_often iM_setMany iM_someOf iM_allOf iM_allWeight iM_enoughWeight iM_worthSum iM_firstRest iM_leastDrawn), (arI rM_tape kM_tape 900 fM_tape), (arI rM_letters kM_letters 8 fM_letters), (arI rM_fresh kM_fresh 287 fM_fresh), (arI rM_read kM_read 90 fM_read), (arI rM_fresher kM_fresher 8 fM_fresher)] sz) := by
  refine Met.ofW (cc := cX7_wordLine) (maxL := 2) (ret := none) pnX7 rfl ?_
  intro p e s m args below meth c s₁ B hml hv
  obtain ⟨rfl, hsz, hP, hK, hD0, hE⟩ := hv
  have hx := B.exec
  have hb := B.bytes
  have hr := B.returns
  have hts : ∀ w ∈ wG, w.before ([.ref oM] : List Value).toArray s = true := fun w h => atoms_spec (ws := Cond.code yX7_wordLine cX7_wordLine 2 none :: wG) B.pre w (List.mem_cons_of_mem _ h)
  have hown : s.vm.findClass RX7 = some m.cls := own_of B.named rfl
  have hlocks := B.notSynchronized
  subst hsz
  have hD := hD0.self (sz := s.heap.size)
  generalize hAe : va_A [(oc7 oM iM_thrown rM_tape iM_taped iM_size iM_at iM_end iM_token iM_whole iM_nameSize iM_fault iM_place iM_trouble rM_letters iM_failed iM_hasCourt rM_r rM_fresh rM_told rM_read rM_st rM_undone rM_kept iM_undos iM_images rM_fresher iM_fresherSize iM_scale iM_night rM_heardRow rM_cutRow iM_breaths iM_cutMany iM_allBreaths rM_trial rM_words iM_fewestBreaths iM_orderMany iM_orderSum iM_leastOrder rM_often iM_setMany iM_someOf iM_allOf iM_allWeight iM_enoughWeight iM_worthSum iM_firstRest iM_leastDrawn), (arI rM_tape kM_tape 900 fM_tape), (arI rM_letters kM_letters 8 fM_letters), (arI rM_fresh kM_fresh 287 fM_fresh), (arI rM_read kM_read 90 fM_read), (arI rM_fresher kM_fresher 8 fM_fresher)] s.heap.size = A at hD hE ⊢
  have hA : ∀ q : Nat, s.heap.size ≤ q → A q := fun q h => by rw [← hAe]; exact Or.inr h
  have hS : va_S A s.heap s.heap [] := va_S.rf
  have hl := lv_entry ([.ref oM]) (n := 2) (Nat.le_of_ble_eq_true rfl)
  rw [lg_entry_eq]
  generalize (lg_sl ([.ref oM]) ++ List.replicate (2 - (lg_sl ([.ref oM])).length) Slot.unset).toArray = ls at hl ⊢
  have hl : lv_has ls 2 [(0, .ref oM)] := hl
  have hG := PX7_wordLine_eq fM_tape iM_size iM_at iM_end iM_token iM_whole iM_nameSize iM_fault iM_place fM_letters iM_failed fM_fresh fM_read fM_fresher iM_fresherSize
  have pl_fM_fresh := r_P.lins
  refine lv_aload_n hx hb dX7_wordLine_0 rfl (lv_at hl 0 rfl) ?_
  refine va_get (D := (dC, dI)) (ci := 7) (v := .int iM_failed) (C := RX7) (T := TX7) (N := 48) hx hb hts inX7 hown hK hP 0 rfl rfl 13 (by decide) (hts _ wd_380) (fun _ h9 => h9) rfl dX7_wordLine_1 ?_
  refine lv_if_eq (tgt := 8) hx hb dX7_wordLine_4 (by decide) (fun c_5523 => ?_) (fun c_5523 => ?_)
  · skip
    have hG := hG.trans (if_pos c_5523)
    have gc_5523 := ti_eq c_5523 rfl kc_0
    have h_5524 : (fM_fresh 2).toInt ≤ 9 := hwl (om_02e9bb08 gc_5523)
    clear hwl
    refine lv_aload_n hx hb dX7_wordLine_8 rfl (lv_at hl 0 rfl) ?_
    have hFc := va_freeI hD hS hA
    refine va_callv (va_runV (As := []) (rest := []) ⟨hx, hb, hml, hown, hts⟩ (tX7_newName l dC dI _ oM iM_thrown rM_tape fM_tape kM_tape iM_taped iM_size iM_at iM_end iM_token iM_whole iM_nameSize iM_fault iM_place iM_trouble rM_letters fM_letters kM_letters iM_failed iM_hasCourt rM_r rM_fresh fM_fresh kM_fresh rM_told rM_read fM_read kM_read rM_st rM_undone rM_kept iM_undos iM_images rM_fresher fM_fresher kM_fresher iM_fresherSize iM_scale iM_night rM_heardRow rM_cutRow iM_breaths iM_cutMany iM_allBreaths rM_trial rM_words iM_fewestBreaths iM_orderMany iM_orderSum iM_leastOrder rM_often iM_setMany iM_someOf iM_allOf iM_allWeight iM_enoughWeight iM_worthSum iM_firstRest iM_leastDrawn b_iM_taped b_iM_size b_iM_end b_iM_nameSize b_iM_failed b_iM_hasCourt b_iM_undos b_iM_images b_iM_scale b_iM_breaths b_iM_cutMany r_T r_P) (cwV 0 hts (wd_V wd_462 wd_463 wd_464 wd_5 (wd_c wd_465)) rfl rfl rfl dv_yX7_newName_0 ⟨Nat.le_of_ble_eq_true rfl, Nat.le_of_ble_eq_true rfl⟩) ⟨Pw.fb, recvX7 hK hP (q0 := 0) rfl, fun U hU hW => Pw.to hP hD hK hE hS hFc hU hW⟩ rfl rfl hl.1 rfl (lv_room (Nat.le_of_ble_eq_true rfl)) dX7_wordLine_9 ⟨Nat.le_of_ble_eq_true rfl, Nat.le_of_ble_eq_true rfl⟩) hS (fun q _ h => hFc q h) hFc (fun u t H locs ht hvm hw hB hz1 hk1 hS => ?_)
    refine ex_11_8 hB (fun x_5525 x_5526 x_5527 x_5528 x_5529 x_5530 x_5531 x_5532 x_5533 f_5534 f_5535 b_x_5526 b_x_5529 b_x_5532 e_x_5525_0 e_x_5525_1 e_x_5525_2 e_x_5525_3 e_x_5525_4 hB => ?_)
    obtain ⟨hP, hD⟩ := Bw.goA (ws' := [(oc7 oM iM_thrown rM_tape iM_taped iM_size x_5525 x_5526 x_5527 x_5528 x_5529 x_5530 x_5531 iM_trouble rM_letters x_5532 iM_hasCourt rM_r rM_fresh rM_told rM_read rM_st rM_undone rM_kept iM_undos iM_images rM_fresher x_5533 iM_scale iM_night rM_heardRow rM_cutRow iM_breaths iM_cutMany iM_allBreaths rM_trial rM_words iM_fewestBreaths iM_orderMany iM_orderSum iM_leastOrder rM_often iM_setMany iM_someOf iM_allOf iM_allWeight iM_enoughWeight iM_worthSum iM_firstRest iM_leastDrawn), (arI rM_tape kM_tape 900 fM_tape), (arI rM_letters kM_letters 8 f_5534), (arI rM_fresh kM_fresh 287 fM_fresh), (arI rM_read kM_read 90 fM_read), (arI rM_fresher kM_fresher 8 f_5535)]) hB rfl ht hFc rfl
    clear hz1 hk1 hvm ht hB
    have hG := hG.trans (un11_eq e_x_5525_4)
    clear r_T
    refine lv_aload_n hx hb dX7_wordLine_12 rfl (lv_at hl 0 rfl) ?_
    obtain ⟨sa_5536, vsa_5536, nsa_5536, fsa_5536, hnsa_5536, hnesa_5536, hfesa_5536, hRsa_5536, hSsa_5536⟩ := hE.2.2.1 (231, "worth", [119, 111, 114, 116, 104]) (by decide)
    have hG := hG.trans (lt_eq hnesa_5536)
    have hG := hG.trans (lt_eq hfesa_5536)
    refine va_ldcS hx hb hown hRsa_5536 dX7_wordLine_13 ?_
    refine lv_iconst (v := 0) hx hb dX7_wordLine_15 (by decide) ?_
    refine lv_bipush (v := 99) hx hb dX7_wordLine_16 (by decide) ?_
    have hMs := ml_of hD [true, true, true, false, false, false] (wc := [(oc7 oM iM_thrown rM_tape iM_taped iM_size x_5525 x_5526 x_5527 x_5528 x_5529 x_5530 x_5531 iM_trouble rM_letters x_5532 iM_hasCourt rM_r rM_fresh rM_told rM_read rM_st rM_undone rM_kept iM_undos iM_images rM_fresher x_5533 iM_scale iM_night rM_heardRow rM_cutRow iM_breaths iM_cutMany iM_allBreaths rM_trial rM_words iM_fewestBreaths iM_orderMany iM_orderSum iM_leastOrder rM_often iM_setMany iM_someOf iM_allOf iM_allWeight iM_enoughWeight iM_worthSum iM_firstRest iM_leastDrawn), (arI rM_tape kM_tape 900 fM_tape), (arI rM_letters kM_letters 8 f_5534)]) rfl
    have hFc := va_freeM hD hS hA _ hMs
    refine va_calli (va_runV (As := [.ref sa_5536, .int 0, .int 99]) (rest := []) ⟨hx, hb, hml, hown, hts⟩ (tX7_after l dC dI _ oM iM_thrown rM_tape fM_tape kM_tape iM_taped iM_size x_5525 x_5526 x_5527 x_5528 x_5529 x_5530 x_5531 iM_trouble rM_letters f_5534 kM_letters x_5532 iM_hasCourt rM_r rM_fresh rM_told rM_read rM_st rM_undone rM_kept iM_undos iM_images rM_fresher x_5533 iM_scale iM_night rM_heardRow rM_cutRow iM_breaths iM_cutMany iM_allBreaths rM_trial rM_words iM_fewestBreaths iM_orderMany iM_orderSum iM_leastOrder rM_often iM_setMany iM_someOf iM_allOf iM_allWeight iM_enoughWeight iM_worthSum iM_firstRest iM_leastDrawn sa_5536 0 99 vsa_5536 nsa_5536 fsa_5536 b_iM_taped b_iM_size b_x_5526 b_x_5529 b_x_5532 b_iM_hasCourt b_iM_undos b_iM_images b_iM_scale b_iM_breaths b_iM_cutMany e_x_5525_1 (Nat.le_trans (Nat.le_of_eq hnesa_5536) (by decide)) (om_b0b40937 kc_0 kc_99)) (cwV 3 hts (wd_V wd_434 wd_435 wd_436 wd_5 (wd_c wd_437)) rfl rfl rfl dv_yX7_after_3 ⟨Nat.le_of_ble_eq_true rfl, Nat.le_of_ble_eq_true rfl⟩) ⟨Pq.fb, recvX7 hK hP (q0 := 0) rfl, fun U hU hW => Pq.to (hP.ms _ hMs) (hD.ms _ hMs) (hK.ms [true, true, false, false, false] rfl) hSsa_5536 hE hS hFc hU hW⟩ rfl rfl hl.1 rfl (lv_room (Nat.le_of_ble_eq_true rfl)) dX7_wordLine_18 ⟨Nat.le_of_ble_eq_true rfl, Nat.le_of_ble_eq_true rfl⟩) hS (fun q _ h => hFc q h) hFc (fun r u t H locs ht hvm hw hB hz1 hk1 hS => ?_)
    have hru9 := hw.2
    have hw := hw.1
    refine ex_9_8 hB (fun x_5537 x_5538 x_5539 x_5540 x_5541 x_5542 x_5543 x_5544 f_5545 b_x_5538 b_x_5541 b_x_5544 e_x_5537_0 e_x_5537_1 e_x_5537_2 e_x_5537_3 e_x_5537_4 hB => ?_)
    obtain ⟨hP, hD⟩ := Bw.goN (ws' := [(oc7 oM iM_thrown rM_tape iM_taped iM_size x_5537 x_5538 x_5539 x_5540 x_5541 x_5542 x_5543 iM_trouble rM_letters x_5544 iM_hasCourt rM_r rM_fresh rM_told rM_read rM_st rM_undone rM_kept iM_undos iM_images rM_fresher x_5533 iM_scale iM_night rM_heardRow rM_cutRow iM_breaths iM_cutMany iM_allBreaths rM_trial rM_words iM_fewestBreaths iM_orderMany iM_orderSum iM_leastOrder rM_often iM_setMany iM_someOf iM_allOf iM_allWeight iM_enoughWeight iM_worthSum iM_firstRest iM_leastDrawn), (arI rM_tape kM_tape 900 fM_tape), (arI rM_letters kM_letters 8 f_5545), (arI rM_fresh kM_fresh 287 fM_fresh), (arI rM_read kM_read 90 fM_read), (arI rM_fresher kM_fresher 8 f_5535)]) hB rfl ht hP hD _ hMs hk1 hFc rfl
    clear hz1 hk1 hvm ht hB hMs
    rw [← hru9] at e_x_5537_4
    obtain ⟨x_5546, rfl⟩ : ∃ z, z = r := ⟨_, rfl⟩
    have hG := hG.trans (un10_eq e_x_5537_4)
    have lx_5546 := hw.2
    have kl_0 := kc_0
    have kl_99 := kc_99
    clear e_x_5525_1
    clear e_x_5525_3
    refine lv_istore_n (lv' := [(1, .int x_5546), (0, .ref oM)]) hx hb dX7_wordLine_21 rfl hl (by decide) rfl (fun ls hl => ?_)
    refine lv_aload_n hx hb dX7_wordLine_22 rfl (lv_at hl 1 rfl) ?_
    refine va_get (D := (dC, dI)) (ci := 7) (v := .int x_5544) (C := RX7) (T := TX7) (N := 48) hx hb hts inX7 hown hK hP 0 rfl rfl 13 (by decide) (hts _ wd_380) (fun _ h9 => h9) rfl dX7_wordLine_23 ?_
    refine lv_if_eq (tgt := 30) hx hb dX7_wordLine_26 (by decide) (fun c_5547 => ?_) (fun c_5547 => ?_)
    · skip
      have hG := hG.trans (if_pos c_5547)
      have gc_5547 := ti_eq c_5547 rfl kc_0
      refine lv_aload_n hx hb dX7_wordLine_30 rfl (lv_at hl 1 rfl) ?_
      refine va_get (D := (dC, dI)) (ci := 7) (v := .ref rM_read) (C := RX7) (T := TX7) (N := 48) hx hb hts inX7 hown hK hP 0 rfl rfl 18 (by decide) (hts _ wd_158) (fun _ h9 => h9) rfl dX7_wordLine_31 ?_
      refine lv_bipush (v := 72) hx hb dX7_wordLine_34 (by decide) ?_
      refine lv_aload_n hx hb dX7_wordLine_36 rfl (lv_at hl 1 rfl) ?_
      refine va_get (D := (dC, dI)) (ci := 7) (v := .ref rM_fresh) (C := RX7) (T := TX7) (N := 48) hx hb hts inX7 hown hK hP 0 rfl rfl 16 (by decide) (hts _ wd_156) (fun _ h9 => h9) rfl dX7_wordLine_37 ?_
      refine lv_iconst (v := 1) hx hb dX7_wordLine_40 (by decide) ?_
      refine va_iald hx hb hK hP 3 2 rfl rfl (by unfold vp_in; decide) dX7_wordLine_41 ?_
      refine lv_topi (fun x_5548 ex_5548 => ?_)
      have hG := hG.trans (lt_eq ex_5548)
      have cx_5548 : (fM_fresh 1).toInt = x_5548.toInt := congrArg Int32.toInt (show fM_fresh 1 = x_5548 from ex_5548.symm)
      refine lv_iadd hx hb dX7_wordLine_42 ?_
      refine lv_topi (fun x_5549 ex_5549 => ?_)
      have hG := hG.trans (lt_eq ex_5549)
      have vx_5549 : x_5549.toInt = x_5548.toInt + 72 := om_2d0716db (ti_add ex_5549 kc_72 rfl (om_40b9b7fe pl_fM_fresh.2.2.2.2.1.1 pl_fM_fresh.2.2.2.2.1.2 cx_5548) (om_8e01d6bb pl_fM_fresh.2.1 pl_fM_fresh.2.2.1.2 pl_fM_fresh.2.2.2.2.2.1.2 cx_5548))
      refine lv_iload_n hx hb dX7_wordLine_43 rfl (lv_at hl 0 rfl) ?_
      refine va_iast hx hb hK hP hD hS 4 3 rfl rfl (ti_in vx_5549 (om_625b1eca pl_fM_fresh.2.2.2.2.1.1 pl_fM_fresh.2.2.2.2.1.2 cx_5548) (om_73529aab pl_fM_fresh.2.1 pl_fM_fresh.2.2.2.2.2.1.2 h_5524 cx_5548)) dX7_wordLine_44 (fun H locs hP hD hS => ?_)
      obtain ⟨f_5550, ef_5550⟩ : ∃ g : Nat → Int32, g = upd fM_read x_5549.toNatClampNeg x_5546 := ⟨_, rfl⟩
      rw [← ef_5550] at hP hD
      have hG := hG.trans (lt_eq ef_5550)
      obtain ⟨hP, hD⟩ := wl2 (ws' := [(oc7 oM iM_thrown rM_tape iM_taped iM_size x_5537 x_5538 x_5539 x_5540 x_5541 x_5542 x_5543 iM_trouble rM_letters x_5544 iM_hasCourt rM_r rM_fresh rM_told rM_read rM_st rM_undone rM_kept iM_undos iM_images rM_fresher x_5533 iM_scale iM_night rM_heardRow rM_cutRow iM_breaths iM_cutMany iM_allBreaths rM_trial rM_words iM_fewestBreaths iM_orderMany iM_orderSum iM_leastOrder rM_often iM_setMany iM_someOf iM_allOf iM_allWeight iM_enoughWeight iM_worthSum iM_firstRest iM_leastDrawn), (arI rM_tape kM_tape 900 fM_tape), (arI rM_letters kM_letters 8 f_5545), (arI rM_fresh kM_fresh 287 fM_fresh), (arI rM_read kM_read 90 f_5550), (arI rM_fresher kM_fresher 8 f_5535)]) hP hD rfl
      have pk_f_5550 : POk fM_fresh f_5550 := POk.wor r_P ef_5550 (by have q9 := ti_cl (x := x_5549) vx_5549 (om_625b1eca pl_fM_fresh.2.2.2.2.1.1 pl_fM_fresh.2.2.2.2.1.2 cx_5548); omega) (by omega) (by omega)
      refine lv_aload_n hx hb dX7_wordLine_45 rfl (lv_at hl 1 rfl) ?_
      refine lv_iconst (v := 0) hx hb dX7_wordLine_46 (by decide) ?_
      have hMs := ml_of hD [true, false, false, true, false, true] (wc := [(oc7 oM iM_thrown rM_tape iM_taped iM_size x_5537 x_5538 x_5539 x_5540 x_5541 x_5542 x_5543 iM_trouble rM_letters x_5544 iM_hasCourt rM_r rM_fresh rM_told rM_read rM_st rM_undone rM_kept iM_undos iM_images rM_fresher x_5533 iM_scale iM_night rM_heardRow rM_cutRow iM_breaths iM_cutMany iM_allBreaths rM_trial rM_words iM_fewestBreaths iM_orderMany iM_orderSum iM_leastOrder rM_often iM_setMany iM_someOf iM_allOf iM_allWeight iM_enoughWeight iM_worthSum iM_firstRest iM_leastDrawn), (arI rM_fresh kM_fresh 287 fM_fresh), (arI rM_fresher kM_fresher 8 f_5535)]) rfl
      have hFc := va_freeM hD hS hA _ hMs
      refine va_callv (va_runV (As := [.int 0]) (rest := []) ⟨hx, hb, hml, hown, hts⟩ (tX7_lay l dC dI _ oM iM_thrown rM_tape iM_taped iM_size x_5537 x_5538 x_5539 x_5540 x_5541 x_5542 x_5543 iM_trouble rM_letters x_5544 iM_hasCourt rM_r rM_fresh fM_fresh kM_fresh rM_told rM_read rM_st rM_undone rM_kept iM_undos iM_images rM_fresher f_5535 kM_fresher x_5533 iM_scale iM_night rM_heardRow rM_cutRow iM_breaths iM_cutMany iM_allBreaths rM_trial rM_words iM_fewestBreaths iM_orderMany iM_orderSum iM_leastOrder rM_often iM_setMany iM_someOf iM_allOf iM_allWeight iM_enoughWeight iM_worthSum iM_firstRest iM_leastDrawn 0 b_iM_taped b_iM_size b_x_5538 b_x_5541 b_x_5544 b_iM_hasCourt b_iM_undos b_iM_images b_iM_scale b_iM_breaths b_iM_cutMany e_x_5537_1 (om_02e9bb08 gc_5547) ⟨(om_18f2890d pl_fM_fresh.2.2.2.2.1.1 pl_fM_fresh.2.2.2.2.1.2), (om_24843d57 pl_fM_fresh.2.1 pl_fM_fresh.2.2.2.2.2.1.2 h_5524)⟩) (cwV 1 hts (wd_V wd_478 wd_479 wd_480 wd_5 (wd_c wd_481)) rfl rfl rfl dv_yX7_lay_1 ⟨Nat.le_of_ble_eq_true rfl, Nat.le_of_ble_eq_true rfl⟩) ⟨Pw.fb, recvX7 hK hP (q0 := 0) rfl, fun U hU hW => Pw.to (hP.ms _ hMs) (hD.ms _ hMs) (hK.ms [false, false, true, false, true] rfl) hE hS hFc hU hW⟩ rfl rfl hl.1 rfl (lv_room (Nat.le_of_ble_eq_true rfl)) dX7_wordLine_47 ⟨Nat.le_of_ble_eq_true rfl, Nat.le_of_ble_eq_true rfl⟩) hS (fun q _ h => hFc q h) hFc (fun u t H locs ht hvm hw hB hz1 hk1 hS => ?_)
      refine ex_1_2 hB (fun f_5551 e_f_5551_0 e_f_5551_1 hB => ?_)
      obtain ⟨hP, hD⟩ := Bw.goN (ws' := [(oc7 oM iM_thrown rM_tape iM_taped iM_size x_5537 x_5538 x_5539 x_5540 x_5541 x_5542 x_5543 iM_trouble rM_letters x_5544 iM_hasCourt rM_r rM_fresh rM_told rM_read rM_st rM_undone rM_kept iM_undos iM_images rM_fresher x_5533 iM_scale iM_night rM_heardRow rM_cutRow iM_breaths iM_cutMany iM_allBreaths rM_trial rM_words iM_fewestBreaths iM_orderMany iM_orderSum iM_leastOrder rM_often iM_setMany iM_someOf iM_allOf iM_allWeight iM_enoughWeight iM_worthSum iM_firstRest iM_leastDrawn), (arI rM_tape kM_tape 900 fM_tape), (arI rM_letters kM_letters 8 f_5545), (arI rM_fresh kM_fresh 287 f_5551), (arI rM_read kM_read 90 f_5550), (arI rM_fresher kM_fresher 8 f_5535)]) hB rfl ht hP hD _ hMs hk1 hFc rfl
      clear hz1 hk1 hvm ht hB hMs
      have o2_f_5551 : (f_5551 2).toInt = (fM_fresh 2).toInt := by rw [(e_f_5551_0).2.2.1 2 (by decide) (by decide) (Nat.ne_of_lt (Nat.lt_of_lt_of_le (by decide) (Nat.le_add_right 9 _)))]
      have o7_f_5551 : (f_5551 7).toInt = (fM_fresh 7).toInt := by rw [(e_f_5551_0).2.2.1 7 (by decide) (by decide) (Nat.ne_of_lt (Nat.lt_of_lt_of_le (by decide) (Nat.le_add_right 9 _)))]
      have o8_f_5551 : (f_5551 8).toInt = (fM_fresh 8).toInt := by rw [(e_f_5551_0).2.2.1 8 (by decide) (by decide) (Nat.ne_of_lt (Nat.lt_of_lt_of_le (by decide) (Nat.le_add_right 9 _)))]
      have hG := hG.trans (lt_eq e_f_5551_1.symm)
      refine lv_aload_n hx hb dX7_wordLine_50 rfl (lv_at hl 1 rfl) ?_
      refine va_get (D := (dC, dI)) (ci := 7) (v := .ref rM_fresh) (C := RX7) (T := TX7) (N := 48) hx hb hts inX7 hown hK hP 0 rfl rfl 16 (by decide) (hts _ wd_156) (fun _ h9 => h9) rfl dX7_wordLine_51 ?_
      refine lv_iconst (v := 2) hx hb dX7_wordLine_54 (by decide) ?_
      refine lv_dup2_11 hx hb dX7_wordLine_55 rfl rfl ?_
      refine va_iald hx hb hK hP 3 2 rfl rfl (by unfold vp_in; decide) dX7_wordLine_56 ?_
      refine lv_topi (fun x_5552 ex_5552 => ?_)
      have hG := hG.trans (lt_eq ex_5552)
      have cx_5552 : (f_5551 2).toInt = x_5552.toInt := congrArg Int32.toInt (show f_5551 2 = x_5552 from ex_5552.symm)
      refine lv_iconst (v := 1) hx hb dX7_wordLine_57 (by decide) ?_
      refine lv_iadd hx hb dX7_wordLine_58 ?_
      refine lv_topi (fun x_5553 ex_5553 => ?_)
      have hG := hG.trans (lt_eq ex_5553)
      have vx_5553 : x_5553.toInt = x_5552.toInt + 1 := ti_add ex_5553 rfl kc_1 (om_70e2a07e pl_fM_fresh.2.2.1.1 o2_f_5551 cx_5552) (om_faed9c11 pl_fM_fresh.2.2.1.2 o2_f_5551 cx_5552)
      refine va_iast hx hb hK hP hD hS 3 2 rfl rfl (by unfold vp_in; decide) dX7_wordLine_59 (fun H locs hP hD hS => ?_)
      obtain ⟨f_5554, ef_5554⟩ : ∃ g : Nat → Int32, g = upd f_5551 (2 : Int32).toNatClampNeg x_5553 := ⟨_, rfl⟩
      rw [← ef_5554] at hP hD
      have hG := hG.trans (lt_eq ef_5554)
      obtain ⟨hP, hD⟩ := wl2 (ws' := [(oc7 oM iM_thrown rM_tape iM_taped iM_size x_5537 x_5538 x_5539 x_5540 x_5541 x_5542 x_5543 iM_trouble rM_letters x_5544 iM_hasCourt rM_r rM_fresh rM_told rM_read rM_st rM_undone rM_kept iM_undos iM_images rM_fresher x_5533 iM_scale iM_night rM_heardRow rM_cutRow iM_breaths iM_cutMany iM_allBreaths rM_trial rM_words iM_fewestBreaths iM_orderMany iM_orderSum iM_leastOrder rM_often iM_setMany iM_someOf iM_allOf iM_allWeight iM_enoughWeight iM_worthSum iM_firstRest iM_leastDrawn), (arI rM_tape kM_tape 900 fM_tape), (arI rM_letters kM_letters 8 f_5545), (arI rM_fresh kM_fresh 287 f_5554), (arI rM_read kM_read 90 f_5550), (arI rM_fresher kM_fresher 8 f_5535)]) hP hD rfl
      have pk_f_5554 : POk f_5554 f_5550 := POk.word pk_f_5550 e_f_5551_0 kc_0 ef_5554 rfl (by have q := vx_5553; omega) (by omega)
      have pl_f_5554 := pk_f_5554.lins
      exact wq_v hx hb hr 0 trivial (fun t ht hW => ⟨x_5537, x_5538, x_5539, x_5540, x_5541, x_5542, x_5543, x_5544, x_5533, f_5545, f_5554, f_5550, f_5535, b_x_5538, b_x_5541, b_x_5544, (om_9348f5ae e_x_5525_0 e_x_5537_0), e_x_5537_1, (om_1fc3dec6 gc_5523 b_x_5544.1), (fun h9 => (om_7ed234da e_x_5525_0 (e_x_5537_3 ⟨(om_02e9bb08 gc_5547), h9.2⟩))), pk_f_5554, hG, Bw.to hP hD hK ht hW⟩) hS dX7_wordLine_60 hlocks
    · skip
      have hG := hG.trans (if_neg c_5547)
      have gc_5547 := ti_ne c_5547 rfl kc_0
      replace gc_5547 : (-1) * x_5544.toInt + 1 ≤ 0 := om_e3003f79 gc_5547 b_x_5544.1
      exact wq_v hx hb hr 0 trivial (fun t ht hW => ⟨x_5537, x_5538, x_5539, x_5540, x_5541, x_5542, x_5543, x_5544, x_5533, f_5545, fM_fresh, fM_read, f_5535, b_x_5538, b_x_5541, b_x_5544, (om_9348f5ae e_x_5525_0 e_x_5537_0), e_x_5537_1, (om_1fc3dec6 gc_5523 b_x_5544.1), (fun h9 => False.elim (om_a5fe015d gc_5547 h9.1)), r_P, hG, Bw.to hP hD hK ht hW⟩) hS dX7_wordLine_29 hlocks
  · skip
    have hG := hG.trans (if_neg c_5523)
    have gc_5523 := ti_ne c_5523 rfl kc_0
    replace gc_5523 : (-1) * iM_failed.toInt + 1 ≤ 0 := om_e3003f79 gc_5523 b_iM_failed.1
    clear hwl
    exact wq_v hx hb hr 0 trivial (fun t ht hW => ⟨iM_at, iM_end, iM_token, iM_whole, iM_nameSize, iM_fault, iM_place, iM_failed, iM_fresherSize, fM_letters, fM_fresh, fM_read, fM_fresher, ⟨b_iM_end.1, b_iM_end.2⟩, ⟨b_iM_nameSize.1, b_iM_nameSize.2⟩, ⟨b_iM_failed.1, b_iM_failed.2⟩, om_1cb5f934, r_T, om_1cb5f934, (fun h9 => False.elim (om_a5fe015d gc_5523 h9.1)), r_P, hG, Bw.to hP hD hK ht hW⟩) hS dX7_wordLine_7 hlocks
set_option maxHeartbeats 4000000 in
set_option maxRecDepth 100000 in
theorem tX7_throneLine (l : Launch) (dC : Nat → ClassId) (dI : Nat → Nat → Nat) (sz : Nat) (oM : Nat) (iM_thrown : Int32) (rM_tape : Nat) (fM_tape : Nat → Int32) (kM_tape : ClassId) (iM_taped : Int32) (iM_size : Int32) (iM_at : Int32) (iM_end : Int32) (iM_token : Int32) (iM_whole : Int32) (iM_nameSize : Int32) (iM_fault : Int32) (iM_place : Int32) (iM_trouble : Int32) (rM_letters : Nat) (fM_letters : Nat → Int32) (kM_letters : ClassId) (iM_failed : Int32) (iM_hasCourt : Int32) (rM_r : Nat) (rM_fresh : Nat) (fM_fresh : Nat → Int32) (kM_fresh : ClassId) (rM_told : Nat) (rM_read : Nat) (fM_read : Nat → Int32) (kM_read : ClassId) (rM_st : Nat) (rM_undone : Nat) (rM_kept : Nat) (iM_undos : Int32) (iM_images : Int32) (rM_fresher : Nat) (iM_fresherSize : Int32) (iM_scale : Int32) (iM_night : Int32) (rM_heardRow : Nat) (rM_cutRow : Nat) (iM_breaths : Int32) (iM_cutMany : Int32) (iM_allBreaths : Int32) (rM_trial : Nat) (rM_words : Nat) (iM_fewestBreaths : Int32) (iM_orderMany : Int32) (iM_orderSum : Int32) (iM_leastOrder : Int32) (rM_often : Nat) (iM_setMany : Int32) (iM_someOf : Int32) (iM_allOf : Int32) (iM_allWeight : Int64) (iM_enoughWeight : Int64) (iM_worthSum : Int64) (iM_firstRest : Int32) (iM_leastDrawn : Int32) (b_iM_taped : 0 ≤ iM_taped.toInt ∧ iM_taped.toInt ≤ 900) (b_iM_size : 0 ≤ iM_size.toInt ∧ iM_size.toInt ≤ 900) (b_iM_end : 0 ≤ iM_end.toInt ∧ iM_end.toInt ≤ 900) (b_iM_nameSize : 0 ≤ iM_nameSize.toInt ∧ iM_nameSize.toInt ≤ 900) (b_iM_failed : 0 ≤ iM_failed.toInt ∧ iM_failed.toInt ≤ 1) (b_iM_hasCourt : 0 ≤ iM_hasCourt.toInt ∧ iM_hasCourt.toInt ≤ 1) (b_iM_undos : 0 ≤ iM_undos.toInt ∧ iM_undos.toInt ≤ 16) (b_iM_images : 0 ≤ iM_images.toInt ∧ iM_images.toInt ≤ 3) (b_iM_scale : 1 ≤ iM_scale.toInt ∧ iM_scale.toInt ≤ 1296) (b_iM_breaths : 0 ≤ iM_breaths.toInt ∧ iM_breaths.toInt ≤ 399) (b_iM_cutMany : 0 ≤ iM_cutMany.toInt ∧ iM_cutMany.toInt ≤ 399) (r_T : ImpP (iM_token.toInt = 2) (iM_nameSize.toInt ≤ 8)) (r_P : POk fM_fresh fM_read)  : Met l yX7_throneLine (Cond.code yX7_throneLine cX7_throneLine 2 none :: wG) ({ frames := 7, cells := 0, slots := 0, locals := 175 }) (va_Pc [.ref oM] (Pw dC dI sz [(oc7 oM iM_thrown rM_tape iM_taped iM_size iM_at iM_end iM_token iM_whole iM_nameSize iM_fault iM_place iM_trouble rM_letters iM_failed iM_hasCourt rM_r rM_fresh rM_told rM_read rM_st rM_undone rM_kept iM_undos iM_images rM_fresher iM_fresherSize iM_scale iM_night rM_heardRow rM_cutRow iM_breaths iM_cutMany iM_allBreaths rM_trial rM_words iM_fewestBreaths iM_orderMany iM_orderSum iM_leastOrder rM_often iM_setMany iM_someOf iM_allOf iM_allWeight iM_enoughWeight iM_worthSum iM_firstRest iM_leastDrawn), (arI rM_tape kM_tape 900 fM_tape), (arI rM_letters kM_letters 8 fM_letters), (arI rM_fresh kM_fresh 287 fM_fresh), (arI rM_read kM_read 90 fM_read)] [(kM_tape, .int), (kM_letters, .int), (kM_fresh, .int), (kM_read, .int)])) (va_Qv (fun (_ : Nat) => True) (fun (_ : Nat) (t : State) => ∃ (niM_at : Int32) (niM_end : Int32) (niM_token : Int32) (niM_whole : Int32) (niM_nameSize : Int32) (niM_fault : Int32) (niM_place : Int32) (niM_failed : Int32) (nfM_letters : Nat → Int32) (nfM_fresh : Nat → Int32), (0 ≤ niM_end.toInt ∧ niM_end.toInt ≤ 900) ∧ (0 ≤ niM_nameSize.toInt ∧ niM_nameSize.toInt ≤ 900) ∧ (0 ≤ niM_failed.toInt ∧ niM_failed.toInt ≤ 1) ∧ (iM_end.toInt ≤ niM_end.toInt) ∧ (ImpP (niM_token.toInt = 2) (niM_nameSize.toInt ≤ 8)) ∧ (iM_failed.toInt ≤ niM_failed.toInt) ∧ (ImpP (niM_failed.toInt ≤ 0 ∧ niM_token.toInt = 59 ) (iM_end.toInt + 1 ≤ niM_end.toInt)) ∧ (POk nfM_fresh fM_read) ∧ (PX7_throneLine fM_tape iM_size iM_at iM_end iM_token iM_whole iM_nameSize iM_fault iM_place fM_letters iM_failed fM_fresh = (niM_at, niM_end, niM_token, niM_whole, niM_nameSize, niM_fault, niM_place, niM_failed, nfM_letters, nfM_fresh)) ∧ Bw dC dI (va_A [(oc7 oM iM_thrown rM_tape iM_taped iM_size iM_at iM_end iM_token iM_whole iM_nameSize iM_fault iM_place iM_trouble rM_letters iM_failed iM_hasCourt rM_r rM_fresh rM_told rM_read rM_st rM_undone rM_kept iM_undos iM_images rM_fresher iM_fresherSize iM_scale iM_night rM_heardRow rM_cutRow iM_breaths iM_cutMany iM_allBreaths rM_trial rM_words iM_fewestBreaths iM_orderMany iM_orderSum iM_leastOrder rM_often iM_setMany iM_someOf iM_allOf iM_allWeight iM_enoughWeight iM_worthSum iM_firstRest iM_leastDrawn), (arI rM_tape kM_tape 900 fM_tape), (arI rM_letters kM_letters 8 fM_letters), (arI rM_fresh kM_fresh 287 fM_fresh), (arI rM_read kM_read 90 fM_read)] sz) [(oc7 oM iM_thrown rM_tape iM_taped iM_size niM_at niM_end niM_token niM_whole niM_nameSize niM_fault niM_place iM_trouble rM_letters niM_failed iM_hasCourt rM_r rM_fresh rM_told rM_read rM_st rM_undone rM_kept iM_undos iM_images rM_fresher iM_fresherSize iM_scale iM_night rM_heardRow rM_cutRow iM_breaths iM_cutMany iM_allBreaths rM_trial rM_words iM_fewestBreaths iM_orderMany iM_orderSum iM_leastOrder rM_often iM_setMany iM_someOf iM_allOf iM_allWeight iM_enoughWeight iM_worthSum iM_firstRest iM_leastDrawn), (arI rM_tape kM_tape 900 fM_tape), (arI rM_letters kM_letters 8 nfM_letters), (arI rM_fresh kM_fresh 287 nfM_fresh), (arI rM_read kM_read 90 fM_read)] [(kM_tape, .int), (kM_letters, .int), (kM_fresh, .int), (kM_read, .int)] t) (va_A [(oc7 oM iM_thrown rM_tape iM_taped iM_size iM_at iM_end iM_token iM_whole iM_nameSize iM_fault iM_place iM_trouble rM_letters iM_failed iM_hasCourt rM_r rM_fresh rM_told rM_read rM_st rM_undone rM_kept iM_undos iM_images rM_fresher iM_fresherSize iM_scale iM_night rM_heardRow rM_cutRow iM_breaths iM_cutMany iM_allBreaths rM_trial rM_words iM_fewestBreaths iM_orderMany iM_orderSum iM_leastOrder rM_often iM_setMany iM_someOf iM_allOf iM_allWeight iM_enoughWeight iM_worthSum iM_firstRest iM_leastDrawn), (arI rM_tape kM_tape 900 fM_tape), (arI rM_letters kM_letters 8 fM_letters), (arI rM_fresh kM_fresh 287 fM_fresh), (arI rM_read kM_read 90 fM_read)] sz)) 0 0 (va_A [(oc7 oM iM_thrown rM_tape iM_taped iM_size iM_at iM_end iM_token iM_whole iM_nameSize iM_fault iM_place iM_trouble rM_letters iM_failed iM_hasCourt rM_r rM_fresh rM_told rM_read rM_st rM_undone rM_kept iM_undos iM_images rM_fresher iM_fresherSize iM_scale iM_night rM_heardRow rM_cutRow iM_breaths iM_cutMany iM_allBreaths rM_trial rM_words iM_fewestBreaths iM_orderMany iM_orderSum iM_leastOrder rM_often iM_setMany iM_someOf iM_allOf iM_allWeight iM_enoughWeight iM_worthSum iM_firstRest iM_leastDrawn), (arI rM_tape kM_tape 900 fM_tape), (arI rM_letters kM_letters 8 fM_letters), (arI rM_fresh kM_fresh 287 fM_fresh), (arI rM_read kM_read 90 fM_read)] sz) := by
  refine Met.ofW (cc := cX7_throneLine) (maxL := 2) (ret := none) pnX7 rfl ?_
  intro p e s m args below meth c s₁ B hml hv
  obtain ⟨rfl, hsz, hP, hK, hD0, hE⟩ := hv
  have hx := B.exec
  have hb := B.bytes
  have hr := B.returns
  have hts : ∀ w ∈ wG, w.before ([.ref oM] : List Value).toArray s = true := fun w h => atoms_spec (ws := Cond.code yX7_throneLine cX7_throneLine 2 none :: wG) B.pre w (List.mem_cons_of_mem _ h)
  have hown : s.vm.findClass RX7 = some m.cls := own_of B.named rfl
  have hlocks := B.notSynchronized
  subst hsz
  have hD := hD0.self (sz := s.heap.size)
  generalize hAe : va_A [(oc7 oM iM_thrown rM_tape iM_taped iM_size iM_at iM_end iM_token iM_whole iM_nameSize iM_fault iM_place iM_trouble rM_letters iM_failed iM_hasCourt rM_r rM_fresh rM_told rM_read rM_st rM_undone rM_kept iM_undos iM_images rM_fresher iM_fresherSize iM_scale iM_night rM_heardRow rM_cutRow iM_breaths iM_cutMany iM_allBreaths rM_trial rM_words iM_fewestBreaths iM_orderMany iM_orderSum iM_leastOrder rM_often iM_setMany iM_someOf iM_allOf iM_allWeight iM_enoughWeight iM_worthSum iM_firstRest iM_leastDrawn), (arI rM_tape kM_tape 900 fM_tape), (arI rM_letters kM_letters 8 fM_letters), (arI rM_fresh kM_fresh 287 fM_fresh), (arI rM_read kM_read 90 fM_read)] s.heap.size = A at hD hE ⊢
  have hA : ∀ q : Nat, s.heap.size ≤ q → A q := fun q h => by rw [← hAe]; exact Or.inr h
  have hS : va_S A s.heap s.heap [] := va_S.rf
  have hl := lv_entry ([.ref oM]) (n := 2) (Nat.le_of_ble_eq_true rfl)
  rw [lg_entry_eq]
  generalize (lg_sl ([.ref oM]) ++ List.replicate (2 - (lg_sl ([.ref oM])).length) Slot.unset).toArray = ls at hl ⊢
  have hl : lv_has ls 2 [(0, .ref oM)] := hl
  have hG := PX7_throneLine_eq fM_tape iM_size iM_at iM_end iM_token iM_whole iM_nameSize iM_fault iM_place fM_letters iM_failed fM_fresh
  have pl_fM_fresh := r_P.lins
  refine lv_aload_n hx hb dX7_throneLine_0 rfl (lv_at hl 0 rfl) ?_
  refine va_get (D := (dC, dI)) (ci := 7) (v := .ref rM_fresh) (C := RX7) (T := TX7) (N := 48) hx hb hts inX7 hown hK hP 0 rfl rfl 16 (by decide) (hts _ wd_156) (fun _ h9 => h9) rfl dX7_throneLine_1 ?_
  refine lv_bipush (v := 6) hx hb dX7_throneLine_4 (by decide) ?_
  refine va_iald hx hb hK hP 3 2 rfl rfl (by unfold vp_in; decide) dX7_throneLine_6 ?_
  refine lv_topi (fun x_5608 ex_5608 => ?_)
  have hG := hG.trans (lt_eq ex_5608)
  have cx_5608 : (fM_fresh 6).toInt = x_5608.toInt := congrArg Int32.toInt (show fM_fresh 6 = x_5608 from ex_5608.symm)
  refine lv_if_lt (tgt := 19) hx hb dX7_throneLine_7 (by decide) (fun c_5609 => ?_) (fun c_5609 => ?_)
  · skip
    have hG := hG.trans (if_pos c_5609)
    have gc_5609 := ti_lt c_5609 rfl kc_0
    refine lv_aload_n hx hb dX7_throneLine_19 rfl (lv_at hl 0 rfl) ?_
    obtain ⟨sa_5610, vsa_5610, nsa_5610, fsa_5610, hnsa_5610, hnesa_5610, hfesa_5610, hRsa_5610, hSsa_5610⟩ := hE.2.2.1 (144, "throne", [116, 104, 114, 111, 110, 101]) (by decide)
    have hG := hG.trans (lt_eq hnesa_5610)
    have hG := hG.trans (lt_eq hfesa_5610)
    refine va_ldcS hx hb hown hRsa_5610 dX7_throneLine_20 ?_
    refine lv_iconst (v := 1) hx hb dX7_throneLine_22 (by decide) ?_
    have hFc := va_freeI hD hS hA
    refine va_calli (va_runV (As := [.ref sa_5610, .int 1]) (rest := []) ⟨hx, hb, hml, hown, hts⟩ (tX7_begins l dC dI _ oM iM_thrown rM_tape fM_tape kM_tape iM_taped iM_size iM_at iM_end iM_token iM_whole iM_nameSize iM_fault iM_place iM_trouble rM_letters fM_letters kM_letters iM_failed iM_hasCourt rM_r rM_fresh fM_fresh kM_fresh rM_told rM_read fM_read kM_read rM_st rM_undone rM_kept iM_undos iM_images rM_fresher iM_fresherSize iM_scale iM_night rM_heardRow rM_cutRow iM_breaths iM_cutMany iM_allBreaths rM_trial rM_words iM_fewestBreaths iM_orderMany iM_orderSum iM_leastOrder rM_often iM_setMany iM_someOf iM_allOf iM_allWeight iM_enoughWeight iM_worthSum iM_firstRest iM_leastDrawn sa_5610 1 vsa_5610 nsa_5610 fsa_5610 b_iM_taped b_iM_size b_iM_end b_iM_nameSize b_iM_failed b_iM_hasCourt b_iM_undos b_iM_images b_iM_scale b_iM_breaths b_iM_cutMany r_T r_P (Nat.le_trans (Nat.le_of_eq hnesa_5610) (by decide)) ⟨(om_1b364b1c kc_1), (om_02032f93 kc_1)⟩) (cwV 2 hts (wd_V wd_450 wd_451 wd_452 wd_5 (wd_c wd_453)) rfl rfl rfl dv_yX7_begins_2 ⟨Nat.le_of_ble_eq_true rfl, Nat.le_of_ble_eq_true rfl⟩) ⟨Pq.fb, recvX7 hK hP (q0 := 0) rfl, fun U hU hW => Pq.to hP hD hK hSsa_5610 hE hS hFc hU hW⟩ rfl rfl hl.1 rfl (lv_room (Nat.le_of_ble_eq_true rfl)) dX7_throneLine_23 ⟨Nat.le_of_ble_eq_true rfl, Nat.le_of_ble_eq_true rfl⟩) hS (fun q _ h => hFc q h) hFc (fun r u t H locs ht hvm hw hB hz1 hk1 hS => ?_)
    have hru9 := hw.2
    have hw := hw.1
    refine ex_9_9 hB (fun x_5611 x_5612 x_5613 x_5614 x_5615 x_5616 x_5617 x_5618 f_5619 b_x_5612 b_x_5615 b_x_5618 e_x_5611_0 e_x_5611_1 e_x_5611_2 e_x_5611_3 e_x_5611_4 e_x_5611_5 hB => ?_)
    obtain ⟨hP, hD⟩ := Bw.goA (ws' := [(oc7 oM iM_thrown rM_tape iM_taped iM_size x_5611 x_5612 x_5613 x_5614 x_5615 x_5616 x_5617 iM_trouble rM_letters x_5618 iM_hasCourt rM_r rM_fresh rM_told rM_read rM_st rM_undone rM_kept iM_undos iM_images rM_fresher iM_fresherSize iM_scale iM_night rM_heardRow rM_cutRow iM_breaths iM_cutMany iM_allBreaths rM_trial rM_words iM_fewestBreaths iM_orderMany iM_orderSum iM_leastOrder rM_often iM_setMany iM_someOf iM_allOf iM_allWeight iM_enoughWeight iM_worthSum iM_firstRest iM_leastDrawn), (arI rM_tape kM_tape 900 fM_tape), (arI rM_letters kM_letters 8 f_5619), (arI rM_fresh kM_fresh 287 fM_fresh), (arI rM_read kM_read 90 fM_read)]) hB rfl ht hFc rfl
    clear hz1 hk1 hvm ht hB
    rw [← hru9] at e_x_5611_5
    obtain ⟨x_5620, rfl⟩ : ∃ z, z = r := ⟨_, rfl⟩
    have hG := hG.trans (un10_eq e_x_5611_5)
    have bx_5620 := hw.1
    have dx_5620 := bz_tb bx_5620
    have lx_5620 := hw.2
    clear r_T
    refine lv_pop hx hb dX7_throneLine_26 rfl ?_
    refine lv_aload_n hx hb dX7_throneLine_27 rfl (lv_at hl 0 rfl) ?_
    have hMs := ml_of hD [true, false, true, true, true] (wc := [(oc7 oM iM_thrown rM_tape iM_taped iM_size x_5611 x_5612 x_5613 x_5614 x_5615 x_5616 x_5617 iM_trouble rM_letters x_5618 iM_hasCourt rM_r rM_fresh rM_told rM_read rM_st rM_undone rM_kept iM_undos iM_images rM_fresher iM_fresherSize iM_scale iM_night rM_heardRow rM_cutRow iM_breaths iM_cutMany iM_allBreaths rM_trial rM_words iM_fewestBreaths iM_orderMany iM_orderSum iM_leastOrder rM_often iM_setMany iM_someOf iM_allOf iM_allWeight iM_enoughWeight iM_worthSum iM_firstRest iM_leastDrawn), (arI rM_letters kM_letters 8 f_5619), (arI rM_fresh kM_fresh 287 fM_fresh), (arI rM_read kM_read 90 fM_read)]) rfl
    have hFc := va_freeM hD hS hA _ hMs
    refine va_calli (va_runV (As := []) (rest := []) ⟨hx, hb, hml, hown, hts⟩ (tX7_nodeHere l dC dI _ oM iM_thrown rM_tape iM_taped iM_size x_5611 x_5612 x_5613 x_5614 x_5615 x_5616 x_5617 iM_trouble rM_letters f_5619 kM_letters x_5618 iM_hasCourt rM_r rM_fresh fM_fresh kM_fresh rM_told rM_read fM_read kM_read rM_st rM_undone rM_kept iM_undos iM_images rM_fresher iM_fresherSize iM_scale iM_night rM_heardRow rM_cutRow iM_breaths iM_cutMany iM_allBreaths rM_trial rM_words iM_fewestBreaths iM_orderMany iM_orderSum iM_leastOrder rM_often iM_setMany iM_someOf iM_allOf iM_allWeight iM_enoughWeight iM_worthSum iM_firstRest iM_leastDrawn b_iM_taped b_iM_size b_x_5612 b_x_5615 b_x_5618 b_iM_hasCourt b_iM_undos b_iM_images b_iM_scale b_iM_breaths b_iM_cutMany e_x_5611_1 r_P) (cwV 0 hts (wd_V wd_486 wd_487 wd_488 wd_5 (wd_c wd_489)) rfl rfl rfl dv_yX7_nodeHere_0 ⟨Nat.le_of_ble_eq_true rfl, Nat.le_of_ble_eq_true rfl⟩) ⟨Pw.fb, recvX7 hK hP (q0 := 0) rfl, fun U hU hW => Pw.to (hP.ms _ hMs) (hD.ms _ hMs) (hK.ms [false, true, true, true] rfl) hE hS hFc hU hW⟩ rfl rfl hl.1 rfl (lv_room (Nat.le_of_ble_eq_true rfl)) dX7_throneLine_28 ⟨Nat.le_of_ble_eq_true rfl, Nat.le_of_ble_eq_true rfl⟩) hS (fun q _ h => hFc q h) hFc (fun r u t H locs ht hvm hw hB hz1 hk1 hS => ?_)
    have hru9 := hw.2
    have hw := hw.1
    refine ex_3_4 hB (fun x_5621 x_5622 x_5623 b_x_5623 e_x_5621_0 e_x_5621_1 e_x_5621_2 hB => ?_)
    obtain ⟨hP, hD⟩ := Bw.goN (ws' := [(oc7 oM iM_thrown rM_tape iM_taped iM_size x_5611 x_5612 x_5613 x_5614 x_5615 x_5621 x_5622 iM_trouble rM_letters x_5623 iM_hasCourt rM_r rM_fresh rM_told rM_read rM_st rM_undone rM_kept iM_undos iM_images rM_fresher iM_fresherSize iM_scale iM_night rM_heardRow rM_cutRow iM_breaths iM_cutMany iM_allBreaths rM_trial rM_words iM_fewestBreaths iM_orderMany iM_orderSum iM_leastOrder rM_often iM_setMany iM_someOf iM_allOf iM_allWeight iM_enoughWeight iM_worthSum iM_firstRest iM_leastDrawn), (arI rM_tape kM_tape 900 fM_tape), (arI rM_letters kM_letters 8 f_5619), (arI rM_fresh kM_fresh 287 fM_fresh), (arI rM_read kM_read 90 fM_read)]) hB rfl ht hP hD _ hMs hk1 hFc rfl
    clear hz1 hk1 hvm ht hB hMs
    rw [← hru9] at e_x_5621_2
    obtain ⟨x_5624, rfl⟩ : ∃ z, z = r := ⟨_, rfl⟩
    have hG := hG.trans (un4_eq e_x_5621_2)
    have lx_5624 := hw.2
    have ux_5624 := hw.2
    refine lv_istore_n (lv' := [(1, .int x_5624), (0, .ref oM)]) hx hb dX7_throneLine_31 rfl hl (by decide) rfl (fun ls hl => ?_)
    refine lv_aload_n hx hb dX7_throneLine_32 rfl (lv_at hl 1 rfl) ?_
    have hMs := ml_of hD [true, true, true, false, false] (wc := [(oc7 oM iM_thrown rM_tape iM_taped iM_size x_5611 x_5612 x_5613 x_5614 x_5615 x_5621 x_5622 iM_trouble rM_letters x_5623 iM_hasCourt rM_r rM_fresh rM_told rM_read rM_st rM_undone rM_kept iM_undos iM_images rM_fresher iM_fresherSize iM_scale iM_night rM_heardRow rM_cutRow iM_breaths iM_cutMany iM_allBreaths rM_trial rM_words iM_fewestBreaths iM_orderMany iM_orderSum iM_leastOrder rM_often iM_setMany iM_someOf iM_allOf iM_allWeight iM_enoughWeight iM_worthSum iM_firstRest iM_leastDrawn), (arI rM_tape kM_tape 900 fM_tape), (arI rM_letters kM_letters 8 f_5619)]) rfl
    have hFc := va_freeM hD hS hA _ hMs
    refine va_callv (va_runV (As := []) (rest := []) ⟨hx, hb, hml, hown, hts⟩ (tX7_pass l dC dI _ oM iM_thrown rM_tape fM_tape kM_tape iM_taped iM_size x_5611 x_5612 x_5613 x_5614 x_5615 x_5621 x_5622 iM_trouble rM_letters f_5619 kM_letters x_5623 iM_hasCourt rM_r rM_fresh rM_told rM_read rM_st rM_undone rM_kept iM_undos iM_images rM_fresher iM_fresherSize iM_scale iM_night rM_heardRow rM_cutRow iM_breaths iM_cutMany iM_allBreaths rM_trial rM_words iM_fewestBreaths iM_orderMany iM_orderSum iM_leastOrder rM_often iM_setMany iM_someOf iM_allOf iM_allWeight iM_enoughWeight iM_worthSum iM_firstRest iM_leastDrawn b_iM_taped b_iM_size b_x_5612 b_x_5615 b_x_5623 b_iM_hasCourt b_iM_undos b_iM_images b_iM_scale b_iM_breaths b_iM_cutMany e_x_5611_1) (cwV 0 hts (wd_V wd_454 wd_455 wd_456 wd_5 (wd_c wd_457)) rfl rfl rfl dv_yX7_pass_0 ⟨Nat.le_of_ble_eq_true rfl, Nat.le_of_ble_eq_true rfl⟩) ⟨Pw.fb, recvX7 hK hP (q0 := 0) rfl, fun U hU hW => Pw.to (hP.ms _ hMs) (hD.ms _ hMs) (hK.ms [true, true, false, false] rfl) hE hS hFc hU hW⟩ rfl rfl hl.1 rfl (lv_room (Nat.le_of_ble_eq_true rfl)) dX7_throneLine_33 ⟨Nat.le_of_ble_eq_true rfl, Nat.le_of_ble_eq_true rfl⟩) hS (fun q _ h => hFc q h) hFc (fun u t H locs ht hvm hw hB hz1 hk1 hS => ?_)
    refine ex_6_6 hB (fun x_5625 x_5626 x_5627 x_5628 x_5629 f_5630 b_x_5626 b_x_5629 e_x_5625_0 e_x_5625_1 e_x_5625_2 e_x_5625_3 hB => ?_)
    obtain ⟨hP, hD⟩ := Bw.goN (ws' := [(oc7 oM iM_thrown rM_tape iM_taped iM_size x_5625 x_5626 x_5627 x_5628 x_5629 x_5621 x_5622 iM_trouble rM_letters x_5623 iM_hasCourt rM_r rM_fresh rM_told rM_read rM_st rM_undone rM_kept iM_undos iM_images rM_fresher iM_fresherSize iM_scale iM_night rM_heardRow rM_cutRow iM_breaths iM_cutMany iM_allBreaths rM_trial rM_words iM_fewestBreaths iM_orderMany iM_orderSum iM_leastOrder rM_often iM_setMany iM_someOf iM_allOf iM_allWeight iM_enoughWeight iM_worthSum iM_firstRest iM_leastDrawn), (arI rM_tape kM_tape 900 fM_tape), (arI rM_letters kM_letters 8 f_5630), (arI rM_fresh kM_fresh 287 fM_fresh), (arI rM_read kM_read 90 fM_read)]) hB rfl ht hP hD _ hMs hk1 hFc rfl
    clear hz1 hk1 hvm ht hB hMs
    have hG := hG.trans (un6_eq e_x_5625_3)
    clear e_x_5611_1
    clear e_x_5611_4
    refine lv_aload_n hx hb dX7_throneLine_36 rfl (lv_at hl 1 rfl) ?_
    refine va_get (D := (dC, dI)) (ci := 7) (v := .int x_5623) (C := RX7) (T := TX7) (N := 48) hx hb hts inX7 hown hK hP 0 rfl rfl 13 (by decide) (hts _ wd_380) (fun _ h9 => h9) rfl dX7_throneLine_37 ?_
    refine lv_if_ne (tgt := 51) hx hb dX7_throneLine_40 (by decide) (fun c_5631 => ?_) (fun c_5631 => ?_)
    · skip
      have hG := hG.trans (if_neg c_5631)
      have gc_5631 := ti_ne c_5631 rfl kc_0
      replace gc_5631 : (-1) * x_5623.toInt + 1 ≤ 0 := om_e3003f79 gc_5631 b_x_5623.1
      clear e_x_5621_1
      exact wq_v hx hb hr 0 trivial (fun t ht hW => ⟨x_5625, x_5626, x_5627, x_5628, x_5629, x_5621, x_5622, x_5623, f_5630, fM_fresh, b_x_5626, b_x_5629, b_x_5623, (om_9348f5ae e_x_5611_0 e_x_5625_0), e_x_5625_1, (om_9348f5ae e_x_5611_2 e_x_5621_0), (fun h9 => False.elim (om_a5fe015d gc_5631 h9.1)), r_P, hG, Bw.to hP hD hK ht hW⟩) hS dX7_throneLine_51 hlocks
    · skip
      have hG := hG.trans (if_pos c_5631)
      have gc_5631 := ti_eq c_5631 rfl kc_0
      have h_5632 : 1 ≤ (fM_fresh 1).toInt := e_x_5621_1 (om_02e9bb08 gc_5631)
      clear e_x_5621_1
      have h_5633 : x_5624.toInt < (fM_fresh 1).toInt := lx_5624.2.1 h_5632
      refine lv_aload_n hx hb dX7_throneLine_43 rfl (lv_at hl 1 rfl) ?_
      refine va_get (D := (dC, dI)) (ci := 7) (v := .ref rM_fresh) (C := RX7) (T := TX7) (N := 48) hx hb hts inX7 hown hK hP 0 rfl rfl 16 (by decide) (hts _ wd_156) (fun _ h9 => h9) rfl dX7_throneLine_44 ?_
      refine lv_bipush (v := 6) hx hb dX7_throneLine_47 (by decide) ?_
      refine lv_iload_n hx hb dX7_throneLine_49 rfl (lv_at hl 0 rfl) ?_
      refine va_iast hx hb hK hP hD hS 3 2 rfl rfl (by unfold vp_in; decide) dX7_throneLine_50 (fun H locs hP hD hS => ?_)
      obtain ⟨f_5634, ef_5634⟩ : ∃ g : Nat → Int32, g = upd fM_fresh (6 : Int32).toNatClampNeg x_5624 := ⟨_, rfl⟩
      rw [← ef_5634] at hP hD
      have hG := hG.trans (lt_eq ef_5634)
      obtain ⟨hP, hD⟩ := wl2 (ws' := [(oc7 oM iM_thrown rM_tape iM_taped iM_size x_5625 x_5626 x_5627 x_5628 x_5629 x_5621 x_5622 iM_trouble rM_letters x_5623 iM_hasCourt rM_r rM_fresh rM_told rM_read rM_st rM_undone rM_kept iM_undos iM_images rM_fresher iM_fresherSize iM_scale iM_night rM_heardRow rM_cutRow iM_breaths iM_cutMany iM_allBreaths rM_trial rM_words iM_fewestBreaths iM_orderMany iM_orderSum iM_leastOrder rM_often iM_setMany iM_someOf iM_allOf iM_allWeight iM_enoughWeight iM_worthSum iM_firstRest iM_leastDrawn), (arI rM_tape kM_tape 900 fM_tape), (arI rM_letters kM_letters 8 f_5630), (arI rM_fresh kM_fresh 287 f_5634), (arI rM_read kM_read 90 fM_read)]) hP hD rfl
      have pk_f_5634 : POk f_5634 fM_read := POk.put r_P ef_5634 (Or.inr (Or.inr (Or.inr (Or.inl (by have q9 : ((6 : Int32).toNatClampNeg : Nat) = 6 := rfl; omega)))))
      have pl_f_5634 := pk_f_5634.lins
      exact wq_v hx hb hr 0 trivial (fun t ht hW => ⟨x_5625, x_5626, x_5627, x_5628, x_5629, x_5621, x_5622, x_5623, f_5630, f_5634, b_x_5626, b_x_5629, b_x_5623, (om_9348f5ae e_x_5611_0 e_x_5625_0), e_x_5625_1, (om_9348f5ae e_x_5611_2 e_x_5621_0), (fun h9 => (om_7ed234da e_x_5611_0 (e_x_5625_2 ⟨(om_02e9bb08 gc_5631), h9.2⟩))), pk_f_5634, hG, Bw.to hP hD hK ht hW⟩) hS dX7_throneLine_51 hlocks
  · skip
    have hG := hG.trans (if_neg c_5609)
    have gc_5609 := ti_nlt c_5609 rfl kc_0
    refine lv_aload_n hx hb dX7_throneLine_10 rfl (lv_at hl 0 rfl) ?_
    refine lv_iconst (v := 3) hx hb dX7_throneLine_11 (by decide) ?_
    refine lv_aload_n hx hb dX7_throneLine_12 rfl (lv_at hl 0 rfl) ?_
    refine va_get (D := (dC, dI)) (ci := 7) (v := .int iM_at) (C := RX7) (T := TX7) (N := 48) hx hb hts inX7 hown hK hP 0 rfl rfl 4 (by decide) (hts _ wd_384) (fun _ h9 => h9) rfl dX7_throneLine_13 ?_
    have hMs := ml_of hD [true, false, false, false, false] (wc := [(oc7 oM iM_thrown rM_tape iM_taped iM_size iM_at iM_end iM_token iM_whole iM_nameSize iM_fault iM_place iM_trouble rM_letters iM_failed iM_hasCourt rM_r rM_fresh rM_told rM_read rM_st rM_undone rM_kept iM_undos iM_images rM_fresher iM_fresherSize iM_scale iM_night rM_heardRow rM_cutRow iM_breaths iM_cutMany iM_allBreaths rM_trial rM_words iM_fewestBreaths iM_orderMany iM_orderSum iM_leastOrder rM_often iM_setMany iM_someOf iM_allOf iM_allWeight iM_enoughWeight iM_worthSum iM_firstRest iM_leastDrawn)]) rfl
    have hFc := va_freeM hD hS hA _ hMs
    refine va_callv (va_runV (As := [.int 3, .int iM_at]) (rest := []) ⟨hx, hb, hml, hown, hts⟩ (tX7_wrong l dC dI _ oM iM_thrown rM_tape iM_taped iM_size iM_at iM_end iM_token iM_whole iM_nameSize iM_fault iM_place iM_trouble rM_letters iM_failed iM_hasCourt rM_r rM_fresh rM_told rM_read rM_st rM_undone rM_kept iM_undos iM_images rM_fresher iM_fresherSize iM_scale iM_night rM_heardRow rM_cutRow iM_breaths iM_cutMany iM_allBreaths rM_trial rM_words iM_fewestBreaths iM_orderMany iM_orderSum iM_leastOrder rM_often iM_setMany iM_someOf iM_allOf iM_allWeight iM_enoughWeight iM_worthSum iM_firstRest iM_leastDrawn 3 iM_at b_iM_taped b_iM_size b_iM_end b_iM_nameSize b_iM_failed b_iM_hasCourt b_iM_undos b_iM_images b_iM_scale b_iM_breaths b_iM_cutMany r_T) (cwV 2 hts (wd_V wd_430 wd_431 wd_432 wd_5 (wd_c wd_433)) rfl rfl rfl dv_yX7_wrong_2 ⟨Nat.le_of_ble_eq_true rfl, Nat.le_of_ble_eq_true rfl⟩) ⟨Pw.fb, recvX7 hK hP (q0 := 0) rfl, fun U hU hW => Pw.to (hP.ms _ hMs) (hD.ms _ hMs) (hK.ms [false, false, false, false] rfl) hE hS hFc hU hW⟩ rfl rfl hl.1 rfl (lv_room (Nat.le_of_ble_eq_true rfl)) dX7_throneLine_16 ⟨Nat.le_of_ble_eq_true rfl, Nat.le_of_ble_eq_true rfl⟩) hS (fun q _ h => hFc q h) hFc (fun u t H locs ht hvm hw hB hz1 hk1 hS => ?_)
    refine ex_3_3 hB (fun x_5635 x_5636 x_5637 b_x_5637 e_x_5635_0 e_x_5635_1 hB => ?_)
    obtain ⟨hP, hD⟩ := Bw.goN (ws' := [(oc7 oM iM_thrown rM_tape iM_taped iM_size iM_at iM_end iM_token iM_whole iM_nameSize x_5635 x_5636 iM_trouble rM_letters x_5637 iM_hasCourt rM_r rM_fresh rM_told rM_read rM_st rM_undone rM_kept iM_undos iM_images rM_fresher iM_fresherSize iM_scale iM_night rM_heardRow rM_cutRow iM_breaths iM_cutMany iM_allBreaths rM_trial rM_words iM_fewestBreaths iM_orderMany iM_orderSum iM_leastOrder rM_often iM_setMany iM_someOf iM_allOf iM_allWeight iM_enoughWeight iM_worthSum iM_firstRest iM_leastDrawn), (arI rM_tape kM_tape 900 fM_tape), (arI rM_letters kM_letters 8 fM_letters), (arI rM_fresh kM_fresh 287 fM_fresh), (arI rM_read kM_read 90 fM_read)]) hB rfl ht hP hD _ hMs hk1 hFc rfl
    clear hz1 hk1 hvm ht hB hMs
    have hG := hG.trans (un3_eq e_x_5635_1)
    refine lv_aload_n hx hb dX7_throneLine_19 rfl (lv_at hl 0 rfl) ?_
    obtain ⟨sa_5638, vsa_5638, nsa_5638, fsa_5638, hnsa_5638, hnesa_5638, hfesa_5638, hRsa_5638, hSsa_5638⟩ := hE.2.2.1 (144, "throne", [116, 104, 114, 111, 110, 101]) (by decide)
    have hG := hG.trans (lt_eq hnesa_5638)
    have hG := hG.trans (lt_eq hfesa_5638)
    refine va_ldcS hx hb hown hRsa_5638 dX7_throneLine_20 ?_
    refine lv_iconst (v := 1) hx hb dX7_throneLine_22 (by decide) ?_
    have hFc := va_freeI hD hS hA
    refine va_calli (va_runV (As := [.ref sa_5638, .int 1]) (rest := []) ⟨hx, hb, hml, hown, hts⟩ (tX7_begins l dC dI _ oM iM_thrown rM_tape fM_tape kM_tape iM_taped iM_size iM_at iM_end iM_token iM_whole iM_nameSize x_5635 x_5636 iM_trouble rM_letters fM_letters kM_letters x_5637 iM_hasCourt rM_r rM_fresh fM_fresh kM_fresh rM_told rM_read fM_read kM_read rM_st rM_undone rM_kept iM_undos iM_images rM_fresher iM_fresherSize iM_scale iM_night rM_heardRow rM_cutRow iM_breaths iM_cutMany iM_allBreaths rM_trial rM_words iM_fewestBreaths iM_orderMany iM_orderSum iM_leastOrder rM_often iM_setMany iM_someOf iM_allOf iM_allWeight iM_enoughWeight iM_worthSum iM_firstRest iM_leastDrawn sa_5638 1 vsa_5638 nsa_5638 fsa_5638 b_iM_taped b_iM_size b_iM_end b_iM_nameSize b_x_5637 b_iM_hasCourt b_iM_undos b_iM_images b_iM_scale b_iM_breaths b_iM_cutMany r_T r_P (Nat.le_trans (Nat.le_of_eq hnesa_5638) (by decide)) ⟨(om_1b364b1c kc_1), (om_02032f93 kc_1)⟩) (cwV 2 hts (wd_V wd_450 wd_451 wd_452 wd_5 (wd_c wd_453)) rfl rfl rfl dv_yX7_begins_2 ⟨Nat.le_of_ble_eq_true rfl, Nat.le_of_ble_eq_true rfl⟩) ⟨Pq.fb, recvX7 hK hP (q0 := 0) rfl, fun U hU hW => Pq.to hP hD hK hSsa_5638 hE hS hFc hU hW⟩ rfl rfl hl.1 rfl (lv_room (Nat.le_of_ble_eq_true rfl)) dX7_throneLine_23 ⟨Nat.le_of_ble_eq_true rfl, Nat.le_of_ble_eq_true rfl⟩) hS (fun q _ h => hFc q h) hFc (fun r u t H locs ht hvm hw hB hz1 hk1 hS => ?_)
    have hru9 := hw.2
    have hw := hw.1
    refine ex_9_9 hB (fun x_5639 x_5640 x_5641 x_5642 x_5643 x_5644 x_5645 x_5646 f_5647 b_x_5640 b_x_5643 b_x_5646 e_x_5639_0 e_x_5639_1 e_x_5639_2 e_x_5639_3 e_x_5639_4 e_x_5639_5 hB => ?_)
    obtain ⟨hP, hD⟩ := Bw.goA (ws' := [(oc7 oM iM_thrown rM_tape iM_taped iM_size x_5639 x_5640 x_5641 x_5642 x_5643 x_5644 x_5645 iM_trouble rM_letters x_5646 iM_hasCourt rM_r rM_fresh rM_told rM_read rM_st rM_undone rM_kept iM_undos iM_images rM_fresher iM_fresherSize iM_scale iM_night rM_heardRow rM_cutRow iM_breaths iM_cutMany iM_allBreaths rM_trial rM_words iM_fewestBreaths iM_orderMany iM_orderSum iM_leastOrder rM_often iM_setMany iM_someOf iM_allOf iM_allWeight iM_enoughWeight iM_worthSum iM_firstRest iM_leastDrawn), (arI rM_tape kM_tape 900 fM_tape), (arI rM_letters kM_letters 8 f_5647), (arI rM_fresh kM_fresh 287 fM_fresh), (arI rM_read kM_read 90 fM_read)]) hB rfl ht hFc rfl
    clear hz1 hk1 hvm ht hB
    rw [← hru9] at e_x_5639_5
    obtain ⟨x_5648, rfl⟩ : ∃ z, z = r := ⟨_, rfl⟩
    have hG := hG.trans (un10_eq e_x_5639_5)
    have bx_5648 := hw.1
    have dx_5648 := bz_tb bx_5648
    have lx_5648 := hw.2
    clear r_T
    refine lv_pop hx hb dX7_throneLine_26 rfl ?_
    refine lv_aload_n hx hb dX7_throneLine_27 rfl (lv_at hl 0 rfl) ?_
    have hMs := ml_of hD [true, false, true, true, true] (wc := [(oc7 oM iM_thrown rM_tape iM_taped iM_size x_5639 x_5640 x_5641 x_5642 x_5643 x_5644 x_5645 iM_trouble rM_letters x_5646 iM_hasCourt rM_r rM_fresh rM_told rM_read rM_st rM_undone rM_kept iM_undos iM_images rM_fresher iM_fresherSize iM_scale iM_night rM_heardRow rM_cutRow iM_breaths iM_cutMany iM_allBreaths rM_trial rM_words iM_fewestBreaths iM_orderMany iM_orderSum iM_leastOrder rM_often iM_setMany iM_someOf iM_allOf iM_allWeight iM_enoughWeight iM_worthSum iM_firstRest iM_leastDrawn), (arI rM_letters kM_letters 8 f_5647), (arI rM_fresh kM_fresh 287 fM_fresh), (arI rM_read kM_read 90 fM_read)]) rfl
    have hFc := va_freeM hD hS hA _ hMs
    refine va_calli (va_runV (As := []) (rest := []) ⟨hx, hb, hml, hown, hts⟩ (tX7_nodeHere l dC dI _ oM iM_thrown rM_tape iM_taped iM_size x_5639 x_5640 x_5641 x_5642 x_5643 x_5644 x_5645 iM_trouble rM_letters f_5647 kM_letters x_5646 iM_hasCourt rM_r rM_fresh fM_fresh kM_fresh rM_told rM_read fM_read kM_read rM_st rM_undone rM_kept iM_undos iM_images rM_fresher iM_fresherSize iM_scale iM_night rM_heardRow rM_cutRow iM_breaths iM_cutMany iM_allBreaths rM_trial rM_words iM_fewestBreaths iM_orderMany iM_orderSum iM_leastOrder rM_often iM_setMany iM_someOf iM_allOf iM_allWeight iM_enoughWeight iM_worthSum iM_firstRest iM_leastDrawn b_iM_taped b_iM_size b_x_5640 b_x_5643 b_x_5646 b_iM_hasCourt b_iM_undos b_iM_images b_iM_scale b_iM_breaths b_iM_cutMany e_x_5639_1 r_P) (cwV 0 hts (wd_V wd_486 wd_487 wd_488 wd_5 (wd_c wd_489)) rfl rfl rfl dv_yX7_nodeHere_0 ⟨Nat.le_of_ble_eq_true rfl, Nat.le_of_ble_eq_true rfl⟩) ⟨Pw.fb, recvX7 hK hP (q0 := 0) rfl, fun U hU hW => Pw.to (hP.ms _ hMs) (hD.ms _ hMs) (hK.ms [false, true, true, true] rfl) hE hS hFc hU hW⟩ rfl rfl hl.1 rfl (lv_room (Nat.le_of_ble_eq_true rfl)) dX7_throneLine_28 ⟨Nat.le_of_ble_eq_true rfl, Nat.le_of_ble_eq_true rfl⟩) hS (fun q _ h => hFc q h) hFc (fun r u t H locs ht hvm hw hB hz1 hk1 hS => ?_)
    have hru9 := hw.2
    have hw := hw.1
    refine ex_3_4 hB (fun x_5649 x_5650 x_5651 b_x_5651 e_x_5649_0 e_x_5649_1 e_x_5649_2 hB => ?_)
    obtain ⟨hP, hD⟩ := Bw.goN (ws' := [(oc7 oM iM_thrown rM_tape iM_taped iM_size x_5639 x_5640 x_5641 x_5642 x_5643 x_5649 x_5650 iM_trouble rM_letters x_5651 iM_hasCourt rM_r rM_fresh rM_told rM_read rM_st rM_undone rM_kept iM_undos iM_images rM_fresher iM_fresherSize iM_scale iM_night rM_heardRow rM_cutRow iM_breaths iM_cutMany iM_allBreaths rM_trial rM_words iM_fewestBreaths iM_orderMany iM_orderSum iM_leastOrder rM_often iM_setMany iM_someOf iM_allOf iM_allWeight iM_enoughWeight iM_worthSum iM_firstRest iM_leastDrawn), (arI rM_tape kM_tape 900 fM_tape), (arI rM_letters kM_letters 8 f_5647), (arI rM_fresh kM_fresh 287 fM_fresh), (arI rM_read kM_read 90 fM_read)]) hB rfl ht hP hD _ hMs hk1 hFc rfl
    clear hz1 hk1 hvm ht hB hMs
    rw [← hru9] at e_x_5649_2
    obtain ⟨x_5652, rfl⟩ : ∃ z, z = r := ⟨_, rfl⟩
    have hG := hG.trans (un4_eq e_x_5649_2)
    have lx_5652 := hw.2
    have ux_5652 := hw.2
    clear e_x_5649_1
    have h_5653 : x_5652.toInt < (fM_fresh 1).toInt := lx_5652.2.1 (om_60c3b8c8 pl_fM_fresh.2.2.2.2.1.2 cx_5608 gc_5609)
    refine lv_istore_n (lv' := [(1, .int x_5652), (0, .ref oM)]) hx hb dX7_throneLine_31 rfl hl (by decide) rfl (fun ls hl => ?_)
    refine lv_aload_n hx hb dX7_throneLine_32 rfl (lv_at hl 1 rfl) ?_
    have hMs := ml_of hD [true, true, true, false, false] (wc := [(oc7 oM iM_thrown rM_tape iM_taped iM_size x_5639 x_5640 x_5641 x_5642 x_5643 x_5649 x_5650 iM_trouble rM_letters x_5651 iM_hasCourt rM_r rM_fresh rM_told rM_read rM_st rM_undone rM_kept iM_undos iM_images rM_fresher iM_fresherSize iM_scale iM_night rM_heardRow rM_cutRow iM_breaths iM_cutMany iM_allBreaths rM_trial rM_words iM_fewestBreaths iM_orderMany iM_orderSum iM_leastOrder rM_often iM_setMany iM_someOf iM_allOf iM_allWeight iM_enoughWeight iM_worthSum iM_firstRest iM_leastDrawn), (arI rM_tape kM_tape 900 fM_tape), (arI rM_letters kM_letters 8 f_5647)]) rfl
    have hFc := va_freeM hD hS hA _ hMs
    refine va_callv (va_runV (As := []) (rest := []) ⟨hx, hb, hml, hown, hts⟩ (tX7_pass l dC dI _ oM iM_thrown rM_tape fM_tape kM_tape iM_taped iM_size x_5639 x_5640 x_5641 x_5642 x_5643 x_5649 x_5650 iM_trouble rM_letters f_5647 kM_letters x_5651 iM_hasCourt rM_r rM_fresh rM_told rM_read rM_st rM_undone rM_kept iM_undos iM_images rM_fresher iM_fresherSize iM_scale iM_night rM_heardRow rM_cutRow iM_breaths iM_cutMany iM_allBreaths rM_trial rM_words iM_fewestBreaths iM_orderMany iM_orderSum iM_leastOrder rM_often iM_setMany iM_someOf iM_allOf iM_allWeight iM_enoughWeight iM_worthSum iM_firstRest iM_leastDrawn b_iM_taped b_iM_size b_x_5640 b_x_5643 b_x_5651 b_iM_hasCourt b_iM_undos b_iM_images b_iM_scale b_iM_breaths b_iM_cutMany e_x_5639_1) (cwV 0 hts (wd_V wd_454 wd_455 wd_456 wd_5 (wd_c wd_457)) rfl rfl rfl dv_yX7_pass_0 ⟨Nat.le_of_ble_eq_true rfl, Nat.le_of_ble_eq_true rfl⟩) ⟨Pw.fb, recvX7 hK hP (q0 := 0) rfl, fun U hU hW => Pw.to (hP.ms _ hMs) (hD.ms _ hMs) (hK.ms [true, true, false, false] rfl) hE hS hFc hU hW⟩ rfl rfl hl.1 rfl (lv_room (Nat.le_of_ble_eq_true rfl)) dX7_throneLine_33 ⟨Nat.le_of_ble_eq_true rfl, Nat.le_of_ble_eq_true rfl⟩) hS (fun q _ h => hFc q h) hFc (fun u t H locs ht hvm hw hB hz1 hk1 hS => ?_)
    refine ex_6_6 hB (fun x_5654 x_5655 x_5656 x_5657 x_5658 f_5659 b_x_5655 b_x_5658 e_x_5654_0 e_x_5654_1 e_x_5654_2 e_x_5654_3 hB => ?_)
    obtain ⟨hP, hD⟩ := Bw.goN (ws' := [(oc7 oM iM_thrown rM_tape iM_taped iM_size x_5654 x_5655 x_5656 x_5657 x_5658 x_5649 x_5650 iM_trouble rM_letters x_5651 iM_hasCourt rM_r rM_fresh rM_told rM_read rM_st rM_undone rM_kept iM_undos iM_images rM_fresher iM_fresherSize iM_scale iM_night rM_heardRow rM_cutRow iM_breaths iM_cutMany iM_allBreaths rM_trial rM_words iM_fewestBreaths iM_orderMany iM_orderSum iM_leastOrder rM_often iM_setMany iM_someOf iM_allOf iM_allWeight iM_enoughWeight iM_worthSum iM_firstRest iM_leastDrawn), (arI rM_tape kM_tape 900 fM_tape), (arI rM_letters kM_letters 8 f_5659), (arI rM_fresh kM_fresh 287 fM_fresh), (arI rM_read kM_read 90 fM_read)]) hB rfl ht hP hD _ hMs hk1 hFc rfl
    clear hz1 hk1 hvm ht hB hMs
    have hG := hG.trans (un6_eq e_x_5654_3)
    clear e_x_5639_1
    clear e_x_5639_4
    refine lv_aload_n hx hb dX7_throneLine_36 rfl (lv_at hl 1 rfl) ?_
    refine va_get (D := (dC, dI)) (ci := 7) (v := .int x_5651) (C := RX7) (T := TX7) (N := 48) hx hb hts inX7 hown hK hP 0 rfl rfl 13 (by decide) (hts _ wd_380) (fun _ h9 => h9) rfl dX7_throneLine_37 ?_
    refine lv_if_ne (tgt := 51) hx hb dX7_throneLine_40 (by decide) (fun c_5660 => ?_) (fun c_5660 => ?_)
    · skip
      have hG := hG.trans (if_neg c_5660)
      have gc_5660 := ti_ne c_5660 rfl kc_0
      replace gc_5660 : (-1) * x_5651.toInt + 1 ≤ 0 := om_e3003f79 gc_5660 b_x_5651.1
      exact wq_v hx hb hr 0 trivial (fun t ht hW => ⟨x_5654, x_5655, x_5656, x_5657, x_5658, x_5649, x_5650, x_5651, f_5659, fM_fresh, b_x_5655, b_x_5658, b_x_5651, (om_9348f5ae e_x_5639_0 e_x_5654_0), e_x_5654_1, (om_be042b3b b_iM_failed.2 gc_5660), (fun h9 => False.elim (om_a5fe015d gc_5660 h9.1)), r_P, hG, Bw.to hP hD hK ht hW⟩) hS dX7_throneLine_51 hlocks
    · skip
      have hG := hG.trans (if_pos c_5660)
      have gc_5660 := ti_eq c_5660 rfl kc_0
      exact ((om_5c6c3440 e_x_5635_0 e_x_5639_2 e_x_5649_0 gc_5660)).elim
set_option maxHeartbeats 4000000 in
set_option maxRecDepth 100000 in
theorem tX7_saidLine (l : Launch) (dC : Nat → ClassId) (dI : Nat → Nat → Nat) (sz : Nat) (oM : Nat) (iM_thrown : Int32) (rM_tape : Nat) (fM_tape : Nat → Int32) (kM_tape : ClassId) (iM_taped : Int32) (iM_size : Int32) (iM_at : Int32) (iM_end : Int32) (iM_token : Int32) (iM_whole : Int32) (iM_nameSize : Int32) (iM_fault : Int32) (iM_place : Int32) (iM_trouble : Int32) (rM_letters : Nat) (fM_letters : Nat → Int32) (kM_letters : ClassId) (iM_failed : Int32) (iM_hasCourt : Int32) (rM_r : Nat) (rM_fresh : Nat) (fM_fresh : Nat → Int32) (kM_fresh : ClassId) (rM_told : Nat) (rM_read : Nat) (fM_read : Nat → Int32) (kM_read : ClassId) (rM_st : Nat) (rM_undone : Nat) (rM_kept : Nat) (iM_undos : Int32) (iM_images : Int32) (rM_fresher : Nat) (iM_fresherSize : Int32) (iM_scale : Int32) (iM_night : Int32) (rM_heardRow : Nat) (rM_cutRow : Nat) (iM_breaths : Int32) (iM_cutMany : Int32) (iM_allBreaths : Int32) (rM_trial : Nat) (rM_words : Nat) (iM_fewestBreaths : Int32) (iM_orderMany : Int32) (iM_orderSum : Int32) (iM_leastOrder : Int32) (rM_often : Nat) (iM_setMany : Int32) (iM_someOf : Int32) (iM_allOf : Int32) (iM_allWeight : Int64) (iM_enoughWeight : Int64) (iM_worthSum : Int64) (iM_firstRest : Int32) (iM_leastDrawn : Int32) (b_iM_taped : 0 ≤ iM_taped.toInt ∧ iM_taped.toInt ≤ 900) (b_iM_size : 0 ≤ iM_size.toInt ∧ iM_size.toInt ≤ 900) (b_iM_end : 0 ≤ iM_end.toInt ∧ iM_end.toInt ≤ 900) (b_iM_nameSize : 0 ≤ iM_nameSize.toInt ∧ iM_nameSize.toInt ≤ 900) (b_iM_failed : 0 ≤ iM_failed.toInt ∧ iM_failed.toInt ≤ 1) (b_iM_hasCourt : 0 ≤ iM_hasCourt.toInt ∧ iM_hasCourt.toInt ≤ 1) (b_iM_undos : 0 ≤ iM_undos.toInt ∧ iM_undos.toInt ≤ 16) (b_iM_images : 0 ≤ iM_images.toInt ∧ iM_images.toInt ≤ 3) (b_iM_scale : 1 ≤ iM_scale.toInt ∧ iM_scale.toInt ≤ 1296) (b_iM_breaths : 0 ≤ iM_breaths.toInt ∧ iM_breaths.toInt ≤ 399) (b_iM_cutMany : 0 ≤ iM_cutMany.toInt ∧ iM_cutMany.toInt ≤ 399) (r_T : ImpP (iM_token.toInt = 2) (iM_nameSize.toInt ≤ 8)) (r_P : POk fM_fresh fM_read)  : Met l yX7_saidLine (Cond.code yX7_saidLine cX7_saidLine 2 none :: wG) ({ frames := 6, cells := 0, slots := 0, locals := 156 }) (va_Pc [.ref oM] (Pw dC dI sz [(oc7 oM iM_thrown rM_tape iM_taped iM_size iM_at iM_end iM_token iM_whole iM_nameSize iM_fault iM_place iM_trouble rM_letters iM_failed iM_hasCourt rM_r rM_fresh rM_told rM_read rM_st rM_undone rM_kept iM_undos iM_images rM_fresher iM_fresherSize iM_scale iM_night rM_heardRow rM_cutRow iM_breaths iM_cutMany iM_allBreaths rM_trial rM_words iM_fewestBreaths iM_orderMany iM_orderSum iM_leastOrder rM_often iM_setMany iM_someOf iM_allOf iM_allWeight iM_enoughWeight iM_worthSum iM_firstRest iM_leastDrawn), (arI rM_tape kM_tape 900 fM_tape), (arI rM_letters kM_letters 8 fM_letters), (arI rM_fresh kM_fresh 287 fM_fresh), (arI rM_read kM_read 90 fM_read)] [(kM_tape, .int), (kM_letters, .int), (kM_fresh, .int), (kM_read, .int)])) (va_Qv (fun (_ : Nat) => True) (fun (_ : Nat) (t : State) => ∃ (niM_at : Int32) (niM_end : Int32) (niM_token : Int32) (niM_whole : Int32) (niM_nameSize : Int32) (niM_fault : Int32) (niM_place : Int32) (niM_failed : Int32) (nfM_letters : Nat → Int32) (nfM_fresh : Nat → Int32), (0 ≤ niM_end.toInt ∧ niM_end.toInt ≤ 900) ∧ (0 ≤ niM_nameSize.toInt ∧ niM_nameSize.toInt ≤ 900) ∧ (0 ≤ niM_failed.toInt ∧ niM_failed.toInt ≤ 1) ∧ (iM_end.toInt ≤ niM_end.toInt) ∧ (ImpP (niM_token.toInt = 2) (niM_nameSize.toInt ≤ 8)) ∧ (iM_failed.toInt ≤ niM_failed.toInt) ∧ (ImpP (niM_failed.toInt ≤ 0 ∧ niM_token.toInt = 59 ) (iM_end.toInt + 1 ≤ niM_end.toInt)) ∧ (POk nfM_fresh fM_read) ∧ (PX7_saidLine fM_tape iM_size iM_at iM_end iM_token iM_whole iM_nameSize iM_fault iM_place fM_letters iM_failed fM_fresh = (niM_at, niM_end, niM_token, niM_whole, niM_nameSize, niM_fault, niM_place, niM_failed, nfM_letters, nfM_fresh)) ∧ Bw dC dI (va_A [(oc7 oM iM_thrown rM_tape iM_taped iM_size iM_at iM_end iM_token iM_whole iM_nameSize iM_fault iM_place iM_trouble rM_letters iM_failed iM_hasCourt rM_r rM_fresh rM_told rM_read rM_st rM_undone rM_kept iM_undos iM_images rM_fresher iM_fresherSize iM_scale iM_night rM_heardRow rM_cutRow iM_breaths iM_cutMany iM_allBreaths rM_trial rM_words iM_fewestBreaths iM_orderMany iM_orderSum iM_leastOrder rM_often iM_setMany iM_someOf iM_allOf iM_allWeight iM_enoughWeight iM_worthSum iM_firstRest iM_leastDrawn), (arI rM_tape kM_tape 900 fM_tape), (arI rM_letters kM_letters 8 fM_letters), (arI rM_fresh kM_fresh 287 fM_fresh), (arI rM_read kM_read 90 fM_read)] sz) [(oc7 oM iM_thrown rM_tape iM_taped iM_size niM_at niM_end niM_token niM_whole niM_nameSize niM_fault niM_place iM_trouble rM_letters niM_failed iM_hasCourt rM_r rM_fresh rM_told rM_read rM_st rM_undone rM_kept iM_undos iM_images rM_fresher iM_fresherSize iM_scale iM_night rM_heardRow rM_cutRow iM_breaths iM_cutMany iM_allBreaths rM_trial rM_words iM_fewestBreaths iM_orderMany iM_orderSum iM_leastOrder rM_often iM_setMany iM_someOf iM_allOf iM_allWeight iM_enoughWeight iM_worthSum iM_firstRest iM_leastDrawn), (arI rM_tape kM_tape 900 fM_tape), (arI rM_letters kM_letters 8 nfM_letters), (arI rM_fresh kM_fresh 287 nfM_fresh), (arI rM_read kM_read 90 fM_read)] [(kM_tape, .int), (kM_letters, .int), (kM_fresh, .int), (kM_read, .int)] t) (va_A [(oc7 oM iM_thrown rM_tape iM_taped iM_size iM_at iM_end iM_token iM_whole iM_nameSize iM_fault iM_place iM_trouble rM_letters iM_failed iM_hasCourt rM_r rM_fresh rM_told rM_read rM_st rM_undone rM_kept iM_undos iM_images rM_fresher iM_fresherSize iM_scale iM_night rM_heardRow rM_cutRow iM_breaths iM_cutMany iM_allBreaths rM_trial rM_words iM_fewestBreaths iM_orderMany iM_orderSum iM_leastOrder rM_often iM_setMany iM_someOf iM_allOf iM_allWeight iM_enoughWeight iM_worthSum iM_firstRest iM_leastDrawn), (arI rM_tape kM_tape 900 fM_tape), (arI rM_letters kM_letters 8 fM_letters), (arI rM_fresh kM_fresh 287 fM_fresh), (arI rM_read kM_read 90 fM_read)] sz)) 0 0 (va_A [(oc7 oM iM_thrown rM_tape iM_taped iM_size iM_at iM_end iM_token iM_whole iM_nameSize iM_fault iM_place iM_trouble rM_letters iM_failed iM_hasCourt rM_r rM_fresh rM_told rM_read rM_st rM_undone rM_kept iM_undos iM_images rM_fresher iM_fresherSize iM_scale iM_night rM_heardRow rM_cutRow iM_breaths iM_cutMany iM_allBreaths rM_trial rM_words iM_fewestBreaths iM_orderMany iM_orderSum iM_leastOrder rM_often iM_setMany iM_someOf iM_allOf iM_allWeight iM_enoughWeight iM_worthSum iM_firstRest iM_leastDrawn), (arI rM_tape kM_tape 900 fM_tape), (arI rM_letters kM_letters 8 fM_letters), (arI rM_fresh kM_fresh 287 fM_fresh), (arI rM_read kM_read 90 fM_read)] sz) := by
  refine Met.ofW (cc := cX7_saidLine) (maxL := 2) (ret := none) pnX7 rfl ?_
  intro p e s m args below meth c s₁ B hml hv
  obtain ⟨rfl, hsz, hP, hK, hD0, hE⟩ := hv
  have hx := B.exec
  have hb := B.bytes
  have hr := B.returns
  have hts : ∀ w ∈ wG, w.before ([.ref oM] : List Value).toArray s = true := fun w h => atoms_spec (ws := Cond.code yX7_saidLine cX7_saidLine 2 none :: wG) B.pre w (List.mem_cons_of_mem _ h)
  have hown : s.vm.findClass RX7 = some m.cls := own_of B.named rfl
  have hlocks := B.notSynchronized
  subst hsz
  have hD := hD0.self (sz := s.heap.size)
  generalize hAe : va_A [(oc7 oM iM_thrown rM_tape iM_taped iM_size iM_at iM_end iM_token iM_whole iM_nameSize iM_fault iM_place iM_trouble rM_letters iM_failed iM_hasCourt rM_r rM_fresh rM_told rM_read rM_st rM_undone rM_kept iM_undos iM_images rM_fresher iM_fresherSize iM_scale iM_night rM_heardRow rM_cutRow iM_breaths iM_cutMany iM_allBreaths rM_trial rM_words iM_fewestBreaths iM_orderMany iM_orderSum iM_leastOrder rM_often iM_setMany iM_someOf iM_allOf iM_allWeight iM_enoughWeight iM_worthSum iM_firstRest iM_leastDrawn), (arI rM_tape kM_tape 900 fM_tape), (arI rM_letters kM_letters 8 fM_letters), (arI rM_fresh kM_fresh 287 fM_fresh), (arI rM_read kM_read 90 fM_read)] s.heap.size = A at hD hE ⊢
  have hA : ∀ q : Nat, s.heap.size ≤ q → A q := fun q h => by rw [← hAe]; exact Or.inr h
  have hS : va_S A s.heap s.heap [] := va_S.rf
  have hl := lv_entry ([.ref oM]) (n := 2) (Nat.le_of_ble_eq_true rfl)
  rw [lg_entry_eq]
  generalize (lg_sl ([.ref oM]) ++ List.replicate (2 - (lg_sl ([.ref oM])).length) Slot.unset).toArray = ls at hl ⊢
  have hl : lv_has ls 2 [(0, .ref oM)] := hl
  have hG := PX7_saidLine_eq fM_tape iM_size iM_at iM_end iM_token iM_whole iM_nameSize iM_fault iM_place fM_letters iM_failed fM_fresh
  have pl_fM_fresh := r_P.lins
  refine lv_aload_n hx hb dX7_saidLine_0 rfl (lv_at hl 0 rfl) ?_
  refine va_get (D := (dC, dI)) (ci := 7) (v := .ref rM_fresh) (C := RX7) (T := TX7) (N := 48) hx hb hts inX7 hown hK hP 0 rfl rfl 16 (by decide) (hts _ wd_156) (fun _ h9 => h9) rfl dX7_saidLine_1 ?_
  refine lv_iconst (v := 4) hx hb dX7_saidLine_4 (by decide) ?_
  refine va_iald hx hb hK hP 3 2 rfl rfl (by unfold vp_in; decide) dX7_saidLine_5 ?_
  refine lv_topi (fun x_5712 ex_5712 => ?_)
  have hG := hG.trans (lt_eq ex_5712)
  have cx_5712 : (fM_fresh 4).toInt = x_5712.toInt := congrArg Int32.toInt (show fM_fresh 4 = x_5712 from ex_5712.symm)
  refine lv_if_le (tgt := 18) hx hb dX7_saidLine_6 (by decide) (fun c_5713 => ?_) (fun c_5713 => ?_)
  · skip
    have hG := hG.trans (if_pos c_5713)
    have gc_5713 := ti_le c_5713 rfl kc_0
    refine lv_aload_n hx hb dX7_saidLine_18 rfl (lv_at hl 0 rfl) ?_
    obtain ⟨sa_5714, vsa_5714, nsa_5714, fsa_5714, hnsa_5714, hnesa_5714, hfesa_5714, hRsa_5714, hSsa_5714⟩ := hE.2.2.1 (148, "said", [115, 97, 105, 100]) (by decide)
    have hG := hG.trans (lt_eq hnesa_5714)
    have hG := hG.trans (lt_eq hfesa_5714)
    refine va_ldcS hx hb hown hRsa_5714 dX7_saidLine_19 ?_
    refine lv_iconst (v := 1) hx hb dX7_saidLine_21 (by decide) ?_
    have hFc := va_freeI hD hS hA
    refine va_calli (va_runV (As := [.ref sa_5714, .int 1]) (rest := []) ⟨hx, hb, hml, hown, hts⟩ (tX7_begins l dC dI _ oM iM_thrown rM_tape fM_tape kM_tape iM_taped iM_size iM_at iM_end iM_token iM_whole iM_nameSize iM_fault iM_place iM_trouble rM_letters fM_letters kM_letters iM_failed iM_hasCourt rM_r rM_fresh fM_fresh kM_fresh rM_told rM_read fM_read kM_read rM_st rM_undone rM_kept iM_undos iM_images rM_fresher iM_fresherSize iM_scale iM_night rM_heardRow rM_cutRow iM_breaths iM_cutMany iM_allBreaths rM_trial rM_words iM_fewestBreaths iM_orderMany iM_orderSum iM_leastOrder rM_often iM_setMany iM_someOf iM_allOf iM_allWeight iM_enoughWeight iM_worthSum iM_firstRest iM_leastDrawn sa_5714 1 vsa_5714 nsa_5714 fsa_5714 b_iM_taped b_iM_size b_iM_end b_iM_nameSize b_iM_failed b_iM_hasCourt b_iM_undos b_iM_images b_iM_scale b_iM_breaths b_iM_cutMany r_T r_P (Nat.le_trans (Nat.le_of_eq hnesa_5714) (by decide)) ⟨(om_1b364b1c kc_1), (om_02032f93 kc_1)⟩) (cwV 2 hts (wd_V wd_450 wd_451 wd_452 wd_5 (wd_c wd_453)) rfl rfl rfl dv_yX7_begins_2 ⟨Nat.le_of_ble_eq_true rfl, Nat.le_of_ble_eq_true rfl⟩) ⟨Pq.fb, recvX7 hK hP (q0 := 0) rfl, fun U hU hW => Pq.to hP hD hK hSsa_5714 hE hS hFc hU hW⟩ rfl rfl hl.1 rfl (lv_room (Nat.le_of_ble_eq_true rfl)) dX7_saidLine_22 ⟨Nat.le_of_ble_eq_true rfl, Nat.le_of_ble_eq_true rfl⟩) hS (fun q _ h => hFc q h) hFc (fun r u t H locs ht hvm hw hB hz1 hk1 hS => ?_)
    have hru9 := hw.2
    have hw := hw.1
    refine ex_9_9 hB (fun x_5715 x_5716 x_5717 x_5718 x_5719 x_5720 x_5721 x_5722 f_5723 b_x_5716 b_x_5719 b_x_5722 e_x_5715_0 e_x_5715_1 e_x_5715_2 e_x_5715_3 e_x_5715_4 e_x_5715_5 hB => ?_)
    obtain ⟨hP, hD⟩ := Bw.goA (ws' := [(oc7 oM iM_thrown rM_tape iM_taped iM_size x_5715 x_5716 x_5717 x_5718 x_5719 x_5720 x_5721 iM_trouble rM_letters x_5722 iM_hasCourt rM_r rM_fresh rM_told rM_read rM_st rM_undone rM_kept iM_undos iM_images rM_fresher iM_fresherSize iM_scale iM_night rM_heardRow rM_cutRow iM_breaths iM_cutMany iM_allBreaths rM_trial rM_words iM_fewestBreaths iM_orderMany iM_orderSum iM_leastOrder rM_often iM_setMany iM_someOf iM_allOf iM_allWeight iM_enoughWeight iM_worthSum iM_firstRest iM_leastDrawn), (arI rM_tape kM_tape 900 fM_tape), (arI rM_letters kM_letters 8 f_5723), (arI rM_fresh kM_fresh 287 fM_fresh), (arI rM_read kM_read 90 fM_read)]) hB rfl ht hFc rfl
    clear hz1 hk1 hvm ht hB
    rw [← hru9] at e_x_5715_5
    obtain ⟨x_5724, rfl⟩ : ∃ z, z = r := ⟨_, rfl⟩
    have hG := hG.trans (un10_eq e_x_5715_5)
    have bx_5724 := hw.1
    have dx_5724 := bz_tb bx_5724
    have lx_5724 := hw.2
    clear r_T
    refine lv_pop hx hb dX7_saidLine_25 rfl ?_
    refine lv_aload_n hx hb dX7_saidLine_26 rfl (lv_at hl 0 rfl) ?_
    refine lv_iconst (v := 0) hx hb dX7_saidLine_27 (by decide) ?_
    refine lv_bipush (v := 99) hx hb dX7_saidLine_28 (by decide) ?_
    have hMs := ml_of hD [true, true, true, false, false] (wc := [(oc7 oM iM_thrown rM_tape iM_taped iM_size x_5715 x_5716 x_5717 x_5718 x_5719 x_5720 x_5721 iM_trouble rM_letters x_5722 iM_hasCourt rM_r rM_fresh rM_told rM_read rM_st rM_undone rM_kept iM_undos iM_images rM_fresher iM_fresherSize iM_scale iM_night rM_heardRow rM_cutRow iM_breaths iM_cutMany iM_allBreaths rM_trial rM_words iM_fewestBreaths iM_orderMany iM_orderSum iM_leastOrder rM_often iM_setMany iM_someOf iM_allOf iM_allWeight iM_enoughWeight iM_worthSum iM_firstRest iM_leastDrawn), (arI rM_tape kM_tape 900 fM_tape), (arI rM_letters kM_letters 8 f_5723)]) rfl
    have hFc := va_freeM hD hS hA _ hMs
    refine va_calli (va_runV (As := [.int 0, .int 99]) (rest := []) ⟨hx, hb, hml, hown, hts⟩ (tX7_number l dC dI _ oM iM_thrown rM_tape fM_tape kM_tape iM_taped iM_size x_5715 x_5716 x_5717 x_5718 x_5719 x_5720 x_5721 iM_trouble rM_letters f_5723 kM_letters x_5722 iM_hasCourt rM_r rM_fresh rM_told rM_read rM_st rM_undone rM_kept iM_undos iM_images rM_fresher iM_fresherSize iM_scale iM_night rM_heardRow rM_cutRow iM_breaths iM_cutMany iM_allBreaths rM_trial rM_words iM_fewestBreaths iM_orderMany iM_orderSum iM_leastOrder rM_often iM_setMany iM_someOf iM_allOf iM_allWeight iM_enoughWeight iM_worthSum iM_firstRest iM_leastDrawn 0 99 b_iM_taped b_iM_size b_x_5716 b_x_5719 b_x_5722 b_iM_hasCourt b_iM_undos b_iM_images b_iM_scale b_iM_breaths b_iM_cutMany e_x_5715_1 (om_b0b40937 kc_0 kc_99)) (cwV 2 hts (wd_V wd_446 wd_447 wd_448 wd_5 (wd_c wd_449)) rfl rfl rfl dv_yX7_number_2 ⟨Nat.le_of_ble_eq_true rfl, Nat.le_of_ble_eq_true rfl⟩) ⟨Pw.fb, recvX7 hK hP (q0 := 0) rfl, fun U hU hW => Pw.to (hP.ms _ hMs) (hD.ms _ hMs) (hK.ms [true, true, false, false] rfl) hE hS hFc hU hW⟩ rfl rfl hl.1 rfl (lv_room (Nat.le_of_ble_eq_true rfl)) dX7_saidLine_30 ⟨Nat.le_of_ble_eq_true rfl, Nat.le_of_ble_eq_true rfl⟩) hS (fun q _ h => hFc q h) hFc (fun r u t H locs ht hvm hw hB hz1 hk1 hS => ?_)
    have hru9 := hw.2
    have hw := hw.1
    refine ex_9_8 hB (fun x_5725 x_5726 x_5727 x_5728 x_5729 x_5730 x_5731 x_5732 f_5733 b_x_5726 b_x_5729 b_x_5732 e_x_5725_0 e_x_5725_1 e_x_5725_2 e_x_5725_3 e_x_5725_4 hB => ?_)
    obtain ⟨hP, hD⟩ := Bw.goN (ws' := [(oc7 oM iM_thrown rM_tape iM_taped iM_size x_5725 x_5726 x_5727 x_5728 x_5729 x_5730 x_5731 iM_trouble rM_letters x_5732 iM_hasCourt rM_r rM_fresh rM_told rM_read rM_st rM_undone rM_kept iM_undos iM_images rM_fresher iM_fresherSize iM_scale iM_night rM_heardRow rM_cutRow iM_breaths iM_cutMany iM_allBreaths rM_trial rM_words iM_fewestBreaths iM_orderMany iM_orderSum iM_leastOrder rM_often iM_setMany iM_someOf iM_allOf iM_allWeight iM_enoughWeight iM_worthSum iM_firstRest iM_leastDrawn), (arI rM_tape kM_tape 900 fM_tape), (arI rM_letters kM_letters 8 f_5733), (arI rM_fresh kM_fresh 287 fM_fresh), (arI rM_read kM_read 90 fM_read)]) hB rfl ht hP hD _ hMs hk1 hFc rfl
    clear hz1 hk1 hvm ht hB hMs
    rw [← hru9] at e_x_5725_4
    obtain ⟨x_5734, rfl⟩ : ∃ z, z = r := ⟨_, rfl⟩
    have hG := hG.trans (un10_eq e_x_5725_4)
    have lx_5734 := hw.2
    have kl_0 := kc_0
    have kl_99 := kc_99
    clear e_x_5715_1
    clear e_x_5715_4
    refine lv_istore_n (lv' := [(1, .int x_5734), (0, .ref oM)]) hx hb dX7_saidLine_33 rfl hl (by decide) rfl (fun ls hl => ?_)
    refine lv_aload_n hx hb dX7_saidLine_34 rfl (lv_at hl 1 rfl) ?_
    refine va_get (D := (dC, dI)) (ci := 7) (v := .int x_5732) (C := RX7) (T := TX7) (N := 48) hx hb hts inX7 hown hK hP 0 rfl rfl 13 (by decide) (hts _ wd_380) (fun _ h9 => h9) rfl dX7_saidLine_35 ?_
    refine lv_if_ne (tgt := 50) hx hb dX7_saidLine_38 (by decide) (fun c_5735 => ?_) (fun c_5735 => ?_)
    · skip
      have hG := hG.trans (if_neg c_5735)
      have gc_5735 := ti_ne c_5735 rfl kc_0
      replace gc_5735 : (-1) * x_5732.toInt + 1 ≤ 0 := om_e3003f79 gc_5735 b_x_5732.1
      exact wq_v hx hb hr 0 trivial (fun t ht hW => ⟨x_5725, x_5726, x_5727, x_5728, x_5729, x_5730, x_5731, x_5732, f_5733, fM_fresh, b_x_5726, b_x_5729, b_x_5732, (om_9348f5ae e_x_5715_0 e_x_5725_0), e_x_5725_1, (om_9348f5ae e_x_5715_2 e_x_5725_2), (fun h9 => False.elim (om_a5fe015d gc_5735 h9.1)), r_P, hG, Bw.to hP hD hK ht hW⟩) hS dX7_saidLine_50 hlocks
    · skip
      have hG := hG.trans (if_pos c_5735)
      have gc_5735 := ti_eq c_5735 rfl kc_0
      refine lv_aload_n hx hb dX7_saidLine_41 rfl (lv_at hl 1 rfl) ?_
      refine va_get (D := (dC, dI)) (ci := 7) (v := .ref rM_fresh) (C := RX7) (T := TX7) (N := 48) hx hb hts inX7 hown hK hP 0 rfl rfl 16 (by decide) (hts _ wd_156) (fun _ h9 => h9) rfl dX7_saidLine_42 ?_
      refine lv_iconst (v := 4) hx hb dX7_saidLine_45 (by decide) ?_
      refine lv_iload_n hx hb dX7_saidLine_46 rfl (lv_at hl 0 rfl) ?_
      refine lv_iconst (v := 1) hx hb dX7_saidLine_47 (by decide) ?_
      refine lv_iadd hx hb dX7_saidLine_48 ?_
      refine lv_topi (fun x_5736 ex_5736 => ?_)
      have hG := hG.trans (lt_eq ex_5736)
      have vx_5736 : x_5736.toInt = x_5734.toInt + 1 := ti_add ex_5736 rfl kc_1 (om_55679156 lx_5734.1 kc_0) (om_a705d0e8 lx_5734.2 kc_99)
      refine va_iast hx hb hK hP hD hS 3 2 rfl rfl (by unfold vp_in; decide) dX7_saidLine_49 (fun H locs hP hD hS => ?_)
      obtain ⟨f_5737, ef_5737⟩ : ∃ g : Nat → Int32, g = upd fM_fresh (4 : Int32).toNatClampNeg x_5736 := ⟨_, rfl⟩
      rw [← ef_5737] at hP hD
      have hG := hG.trans (lt_eq ef_5737)
      obtain ⟨hP, hD⟩ := wl2 (ws' := [(oc7 oM iM_thrown rM_tape iM_taped iM_size x_5725 x_5726 x_5727 x_5728 x_5729 x_5730 x_5731 iM_trouble rM_letters x_5732 iM_hasCourt rM_r rM_fresh rM_told rM_read rM_st rM_undone rM_kept iM_undos iM_images rM_fresher iM_fresherSize iM_scale iM_night rM_heardRow rM_cutRow iM_breaths iM_cutMany iM_allBreaths rM_trial rM_words iM_fewestBreaths iM_orderMany iM_orderSum iM_leastOrder rM_often iM_setMany iM_someOf iM_allOf iM_allWeight iM_enoughWeight iM_worthSum iM_firstRest iM_leastDrawn), (arI rM_tape kM_tape 900 fM_tape), (arI rM_letters kM_letters 8 f_5733), (arI rM_fresh kM_fresh 287 f_5737), (arI rM_read kM_read 90 fM_read)]) hP hD rfl
      have pk_f_5737 : POk f_5737 fM_read := POk.put r_P ef_5737 (Or.inr (Or.inl (by have q9 : ((4 : Int32).toNatClampNeg : Nat) = 4 := rfl; omega)))
      have pl_f_5737 := pk_f_5737.lins
      exact wq_v hx hb hr 0 trivial (fun t ht hW => ⟨x_5725, x_5726, x_5727, x_5728, x_5729, x_5730, x_5731, x_5732, f_5733, f_5737, b_x_5726, b_x_5729, b_x_5732, (om_9348f5ae e_x_5715_0 e_x_5725_0), e_x_5725_1, (om_9348f5ae e_x_5715_2 e_x_5725_2), (fun h9 => (om_7ed234da e_x_5715_0 (e_x_5725_3 ⟨(om_02e9bb08 gc_5735), h9.2⟩))), pk_f_5737, hG, Bw.to hP hD hK ht hW⟩) hS dX7_saidLine_50 hlocks
  · skip
    have hG := hG.trans (if_neg c_5713)
    have gc_5713 := ti_nle c_5713 rfl kc_0
    refine lv_aload_n hx hb dX7_saidLine_9 rfl (lv_at hl 0 rfl) ?_
    refine lv_iconst (v := 3) hx hb dX7_saidLine_10 (by decide) ?_
    refine lv_aload_n hx hb dX7_saidLine_11 rfl (lv_at hl 0 rfl) ?_
    refine va_get (D := (dC, dI)) (ci := 7) (v := .int iM_at) (C := RX7) (T := TX7) (N := 48) hx hb hts inX7 hown hK hP 0 rfl rfl 4 (by decide) (hts _ wd_384) (fun _ h9 => h9) rfl dX7_saidLine_12 ?_
    have hMs := ml_of hD [true, false, false, false, false] (wc := [(oc7 oM iM_thrown rM_tape iM_taped iM_size iM_at iM_end iM_token iM_whole iM_nameSize iM_fault iM_place iM_trouble rM_letters iM_failed iM_hasCourt rM_r rM_fresh rM_told rM_read rM_st rM_undone rM_kept iM_undos iM_images rM_fresher iM_fresherSize iM_scale iM_night rM_heardRow rM_cutRow iM_breaths iM_cutMany iM_allBreaths rM_trial rM_words iM_fewestBreaths iM_orderMany iM_orderSum iM_leastOrder rM_often iM_setMany iM_someOf iM_allOf iM_allWeight iM_enoughWeight iM_worthSum iM_firstRest iM_leastDrawn)]) rfl
    have hFc := va_freeM hD hS hA _ hMs
    refine va_callv (va_runV (As := [.int 3, .int iM_at]) (rest := []) ⟨hx, hb, hml, hown, hts⟩ (tX7_wrong l dC dI _ oM iM_thrown rM_tape iM_taped iM_size iM_at iM_end iM_token iM_whole iM_nameSize iM_fault iM_place iM_trouble rM_letters iM_failed iM_hasCourt rM_r rM_fresh rM_told rM_read rM_st rM_undone rM_kept iM_undos iM_images rM_fresher iM_fresherSize iM_scale iM_night rM_heardRow rM_cutRow iM_breaths iM_cutMany iM_allBreaths rM_trial rM_words iM_fewestBreaths iM_orderMany iM_orderSum iM_leastOrder rM_often iM_setMany iM_someOf iM_allOf iM_allWeight iM_enoughWeight iM_worthSum iM_firstRest iM_leastDrawn 3 iM_at b_iM_taped b_iM_size b_iM_end b_iM_nameSize b_iM_failed b_iM_hasCourt b_iM_undos b_iM_images b_iM_scale b_iM_breaths b_iM_cutMany r_T) (cwV 2 hts (wd_V wd_430 wd_431 wd_432 wd_5 (wd_c wd_433)) rfl rfl rfl dv_yX7_wrong_2 ⟨Nat.le_of_ble_eq_true rfl, Nat.le_of_ble_eq_true rfl⟩) ⟨Pw.fb, recvX7 hK hP (q0 := 0) rfl, fun U hU hW => Pw.to (hP.ms _ hMs) (hD.ms _ hMs) (hK.ms [false, false, false, false] rfl) hE hS hFc hU hW⟩ rfl rfl hl.1 rfl (lv_room (Nat.le_of_ble_eq_true rfl)) dX7_saidLine_15 ⟨Nat.le_of_ble_eq_true rfl, Nat.le_of_ble_eq_true rfl⟩) hS (fun q _ h => hFc q h) hFc (fun u t H locs ht hvm hw hB hz1 hk1 hS => ?_)
    refine ex_3_3 hB (fun x_5738 x_5739 x_5740 b_x_5740 e_x_5738_0 e_x_5738_1 hB => ?_)
    obtain ⟨hP, hD⟩ := Bw.goN (ws' := [(oc7 oM iM_thrown rM_tape iM_taped iM_size iM_at iM_end iM_token iM_whole iM_nameSize x_5738 x_5739 iM_trouble rM_letters x_5740 iM_hasCourt rM_r rM_fresh rM_told rM_read rM_st rM_undone rM_kept iM_undos iM_images rM_fresher iM_fresherSize iM_scale iM_night rM_heardRow rM_cutRow iM_breaths iM_cutMany iM_allBreaths rM_trial rM_words iM_fewestBreaths iM_orderMany iM_orderSum iM_leastOrder rM_often iM_setMany iM_someOf iM_allOf iM_allWeight iM_enoughWeight iM_worthSum iM_firstRest iM_leastDrawn), (arI rM_tape kM_tape 900 fM_tape), (arI rM_letters kM_letters 8 fM_letters), (arI rM_fresh kM_fresh 287 fM_fresh), (arI rM_read kM_read 90 fM_read)]) hB rfl ht hP hD _ hMs hk1 hFc rfl
    clear hz1 hk1 hvm ht hB hMs
    have hG := hG.trans (un3_eq e_x_5738_1)
    refine lv_aload_n hx hb dX7_saidLine_18 rfl (lv_at hl 0 rfl) ?_
    obtain ⟨sa_5741, vsa_5741, nsa_5741, fsa_5741, hnsa_5741, hnesa_5741, hfesa_5741, hRsa_5741, hSsa_5741⟩ := hE.2.2.1 (148, "said", [115, 97, 105, 100]) (by decide)
    have hG := hG.trans (lt_eq hnesa_5741)
    have hG := hG.trans (lt_eq hfesa_5741)
    refine va_ldcS hx hb hown hRsa_5741 dX7_saidLine_19 ?_
    refine lv_iconst (v := 1) hx hb dX7_saidLine_21 (by decide) ?_
    have hFc := va_freeI hD hS hA
    refine va_calli (va_runV (As := [.ref sa_5741, .int 1]) (rest := []) ⟨hx, hb, hml, hown, hts⟩ (tX7_begins l dC dI _ oM iM_thrown rM_tape fM_tape kM_tape iM_taped iM_size iM_at iM_end iM_token iM_whole iM_nameSize x_5738 x_5739 iM_trouble rM_letters fM_letters kM_letters x_5740 iM_hasCourt rM_r rM_fresh fM_fresh kM_fresh rM_told rM_read fM_read kM_read rM_st rM_undone rM_kept iM_undos iM_images rM_fresher iM_fresherSize iM_scale iM_night rM_heardRow rM_cutRow iM_breaths iM_cutMany iM_allBreaths rM_trial rM_words iM_fewestBreaths iM_orderMany iM_orderSum iM_leastOrder rM_often iM_setMany iM_someOf iM_allOf iM_allWeight iM_enoughWeight iM_worthSum iM_firstRest iM_leastDrawn sa_5741 1 vsa_5741 nsa_5741 fsa_5741 b_iM_taped b_iM_size b_iM_end b_iM_nameSize b_x_5740 b_iM_hasCourt b_iM_undos b_iM_images b_iM_scale b_iM_breaths b_iM_cutMany r_T r_P (Nat.le_trans (Nat.le_of_eq hnesa_5741) (by decide)) ⟨(om_1b364b1c kc_1), (om_02032f93 kc_1)⟩) (cwV 2 hts (wd_V wd_450 wd_451 wd_452 wd_5 (wd_c wd_453)) rfl rfl rfl dv_yX7_begins_2 ⟨Nat.le_of_ble_eq_true rfl, Nat.le_of_ble_eq_true rfl⟩) ⟨Pq.fb, recvX7 hK hP (q0 := 0) rfl, fun U hU hW => Pq.to hP hD hK hSsa_5741 hE hS hFc hU hW⟩ rfl rfl hl.1 rfl (lv_room (Nat.le_of_ble_eq_true rfl)) dX7_saidLine_22 ⟨Nat.le_of_ble_eq_true rfl, Nat.le_of_ble_eq_true rfl⟩) hS (fun q _ h => hFc q h) hFc (fun r u t H locs ht hvm hw hB hz1 hk1 hS => ?_)
    have hru9 := hw.2
    have hw := hw.1
    refine ex_9_9 hB (fun x_5742 x_5743 x_5744 x_5745 x_5746 x_5747 x_5748 x_5749 f_5750 b_x_5743 b_x_5746 b_x_5749 e_x_5742_0 e_x_5742_1 e_x_5742_2 e_x_5742_3 e_x_5742_4 e_x_5742_5 hB => ?_)
    obtain ⟨hP, hD⟩ := Bw.goA (ws' := [(oc7 oM iM_thrown rM_tape iM_taped iM_size x_5742 x_5743 x_5744 x_5745 x_5746 x_5747 x_5748 iM_trouble rM_letters x_5749 iM_hasCourt rM_r rM_fresh rM_told rM_read rM_st rM_undone rM_kept iM_undos iM_images rM_fresher iM_fresherSize iM_scale iM_night rM_heardRow rM_cutRow iM_breaths iM_cutMany iM_allBreaths rM_trial rM_words iM_fewestBreaths iM_orderMany iM_orderSum iM_leastOrder rM_often iM_setMany iM_someOf iM_allOf iM_allWeight iM_enoughWeight iM_worthSum iM_firstRest iM_leastDrawn), (arI rM_tape kM_tape 900 fM_tape), (arI rM_letters kM_letters 8 f_5750), (arI rM_fresh kM_fresh 287 fM_fresh), (arI rM_read kM_read 90 fM_read)]) hB rfl ht hFc rfl
    clear hz1 hk1 hvm ht hB
    rw [← hru9] at e_x_5742_5
    obtain ⟨x_5751, rfl⟩ : ∃ z, z = r := ⟨_, rfl⟩
    have hG := hG.trans (un10_eq e_x_5742_5)
    have bx_5751 := hw.1
    have dx_5751 := bz_tb bx_5751
    have lx_5751 := hw.2
    clear r_T
    refine lv_pop hx hb dX7_saidLine_25 rfl ?_
    refine lv_aload_n hx hb dX7_saidLine_26 rfl (lv_at hl 0 rfl) ?_
    refine lv_iconst (v := 0) hx hb dX7_saidLine_27 (by decide) ?_
    refine lv_bipush (v := 99) hx hb dX7_saidLine_28 (by decide) ?_
    have hMs := ml_of hD [true, true, true, false, false] (wc := [(oc7 oM iM_thrown rM_tape iM_taped iM_size x_5742 x_5743 x_5744 x_5745 x_5746 x_5747 x_5748 iM_trouble rM_letters x_5749 iM_hasCourt rM_r rM_fresh rM_told rM_read rM_st rM_undone rM_kept iM_undos iM_images rM_fresher iM_fresherSize iM_scale iM_night rM_heardRow rM_cutRow iM_breaths iM_cutMany iM_allBreaths rM_trial rM_words iM_fewestBreaths iM_orderMany iM_orderSum iM_leastOrder rM_often iM_setMany iM_someOf iM_allOf iM_allWeight iM_enoughWeight iM_worthSum iM_firstRest iM_leastDrawn), (arI rM_tape kM_tape 900 fM_tape), (arI rM_letters kM_letters 8 f_5750)]) rfl
    have hFc := va_freeM hD hS hA _ hMs
    refine va_calli (va_runV (As := [.int 0, .int 99]) (rest := []) ⟨hx, hb, hml, hown, hts⟩ (tX7_number l dC dI _ oM iM_thrown rM_tape fM_tape kM_tape iM_taped iM_size x_5742 x_5743 x_5744 x_5745 x_5746 x_5747 x_5748 iM_trouble rM_letters f_5750 kM_letters x_5749 iM_hasCourt rM_r rM_fresh rM_told rM_read rM_st rM_undone rM_kept iM_undos iM_images rM_fresher iM_fresherSize iM_scale iM_night rM_heardRow rM_cutRow iM_breaths iM_cutMany iM_allBreaths rM_trial rM_words iM_fewestBreaths iM_orderMany iM_orderSum iM_leastOrder rM_often iM_setMany iM_someOf iM_allOf iM_allWeight iM_enoughWeight iM_worthSum iM_firstRest iM_leastDrawn 0 99 b_iM_taped b_iM_size b_x_5743 b_x_5746 b_x_5749 b_iM_hasCourt b_iM_undos b_iM_images b_iM_scale b_iM_breaths b_iM_cutMany e_x_5742_1 (om_b0b40937 kc_0 kc_99)) (cwV 2 hts (wd_V wd_446 wd_447 wd_448 wd_5 (wd_c wd_449)) rfl rfl rfl dv_yX7_number_2 ⟨Nat.le_of_ble_eq_true rfl, Nat.le_of_ble_eq_true rfl⟩) ⟨Pw.fb, recvX7 hK hP (q0 := 0) rfl, fun U hU hW => Pw.to (hP.ms _ hMs) (hD.ms _ hMs) (hK.ms [true, true, false, false] rfl) hE hS hFc hU hW⟩ rfl rfl hl.1 rfl (lv_room (Nat.le_of_ble_eq_true rfl)) dX7_saidLine_30 ⟨Nat.le_of_ble_eq_true rfl, Nat.le_of_ble_eq_true rfl⟩) hS (fun q _ h => hFc q h) hFc (fun r u t H locs ht hvm hw hB hz1 hk1 hS => ?_)
    have hru9 := hw.2
    have hw := hw.1
    refine ex_9_8 hB (fun x_5752 x_5753 x_5754 x_5755 x_5756 x_5757 x_5758 x_5759 f_5760 b_x_5753 b_x_5756 b_x_5759 e_x_5752_0 e_x_5752_1 e_x_5752_2 e_x_5752_3 e_x_5752_4 hB => ?_)
    obtain ⟨hP, hD⟩ := Bw.goN (ws' := [(oc7 oM iM_thrown rM_tape iM_taped iM_size x_5752 x_5753 x_5754 x_5755 x_5756 x_5757 x_5758 iM_trouble rM_letters x_5759 iM_hasCourt rM_r rM_fresh rM_told rM_read rM_st rM_undone rM_kept iM_undos iM_images rM_fresher iM_fresherSize iM_scale iM_night rM_heardRow rM_cutRow iM_breaths iM_cutMany iM_allBreaths rM_trial rM_words iM_fewestBreaths iM_orderMany iM_orderSum iM_leastOrder rM_often iM_setMany iM_someOf iM_allOf iM_allWeight iM_enoughWeight iM_worthSum iM_firstRest iM_leastDrawn), (arI rM_tape kM_tape 900 fM_tape), (arI rM_letters kM_letters 8 f_5760), (arI rM_fresh kM_fresh 287 fM_fresh), (arI rM_read kM_read 90 fM_read)]) hB rfl ht hP hD _ hMs hk1 hFc rfl
    clear hz1 hk1 hvm ht hB hMs
    rw [← hru9] at e_x_5752_4
    obtain ⟨x_5761, rfl⟩ : ∃ z, z = r := ⟨_, rfl⟩
    have hG := hG.trans (un10_eq e_x_5752_4)
    have lx_5761 := hw.2
    have kl_0 := kc_0
    have kl_99 := kc_99
    clear e_x_5742_1
    clear e_x_5742_4
    refine lv_istore_n (lv' := [(1, .int x_5761), (0, .ref oM)]) hx hb dX7_saidLine_33 rfl hl (by decide) rfl (fun ls hl => ?_)
    refine lv_aload_n hx hb dX7_saidLine_34 rfl (lv_at hl 1 rfl) ?_
    refine va_get (D := (dC, dI)) (ci := 7) (v := .int x_5759) (C := RX7) (T := TX7) (N := 48) hx hb hts inX7 hown hK hP 0 rfl rfl 13 (by decide) (hts _ wd_380) (fun _ h9 => h9) rfl dX7_saidLine_35 ?_
    refine lv_if_ne (tgt := 50) hx hb dX7_saidLine_38 (by decide) (fun c_5762 => ?_) (fun c_5762 => ?_)
    · skip
      have hG := hG.trans (if_neg c_5762)
      have gc_5762 := ti_ne c_5762 rfl kc_0
      replace gc_5762 : (-1) * x_5759.toInt + 1 ≤ 0 := om_e3003f79 gc_5762 b_x_5759.1
      exact wq_v hx hb hr 0 trivial (fun t ht hW => ⟨x_5752, x_5753, x_5754, x_5755, x_5756, x_5757, x_5758, x_5759, f_5760, fM_fresh, b_x_5753, b_x_5756, b_x_5759, (om_9348f5ae e_x_5742_0 e_x_5752_0), e_x_5752_1, (om_be042b3b b_iM_failed.2 gc_5762), (fun h9 => False.elim (om_a5fe015d gc_5762 h9.1)), r_P, hG, Bw.to hP hD hK ht hW⟩) hS dX7_saidLine_50 hlocks
    · skip
      have hG := hG.trans (if_pos c_5762)
      have gc_5762 := ti_eq c_5762 rfl kc_0
      exact ((om_5c6c3440 e_x_5738_0 e_x_5742_2 e_x_5752_2 gc_5762)).elim
set_option maxHeartbeats 4000000 in
set_option maxRecDepth 100000 in
theorem tX7_unsureLine (l : Launch) (dC : Nat → ClassId) (dI : Nat → Nat → Nat) (sz : Nat) (oM : Nat) (iM_thrown : Int32) (rM_tape : Nat) (fM_tape : Nat → Int32) (kM_tape : ClassId) (iM_taped : Int32) (iM_size : Int32) (iM_at : Int32) (iM_end : Int32) (iM_token : Int32) (iM_whole : Int32) (iM_nameSize : Int32) (iM_fault : Int32) (iM_place : Int32) (iM_trouble : Int32) (rM_letters : Nat) (fM_letters : Nat → Int32) (kM_letters : ClassId) (iM_failed : Int32) (iM_hasCourt : Int32) (rM_r : Nat) (rM_fresh : Nat) (fM_fresh : Nat → Int32) (kM_fresh : ClassId) (rM_told : Nat) (rM_read : Nat) (fM_read : Nat → Int32) (kM_read : ClassId) (rM_st : Nat) (rM_undone : Nat) (rM_kept : Nat) (iM_undos : Int32) (iM_images : Int32) (rM_fresher : Nat) (iM_fresherSize : Int32) (iM_scale : Int32) (iM_night : Int32) (rM_heardRow : Nat) (rM_cutRow : Nat) (iM_breaths : Int32) (iM_cutMany : Int32) (iM_allBreaths : Int32) (rM_trial : Nat) (rM_words : Nat) (iM_fewestBreaths : Int32) (iM_orderMany : Int32) (iM_orderSum : Int32) (iM_leastOrder : Int32) (rM_often : Nat) (iM_setMany : Int32) (iM_someOf : Int32) (iM_allOf : Int32) (iM_allWeight : Int64) (iM_enoughWeight : Int64) (iM_worthSum : Int64) (iM_firstRest : Int32) (iM_leastDrawn : Int32) (b_iM_taped : 0 ≤ iM_taped.toInt ∧ iM_taped.toInt ≤ 900) (b_iM_size : 0 ≤ iM_size.toInt ∧ iM_size.toInt ≤ 900) (b_iM_end : 0 ≤ iM_end.toInt ∧ iM_end.toInt ≤ 900) (b_iM_nameSize : 0 ≤ iM_nameSize.toInt ∧ iM_nameSize.toInt ≤ 900) (b_iM_failed : 0 ≤ iM_failed.toInt ∧ iM_failed.toInt ≤ 1) (b_iM_hasCourt : 0 ≤ iM_hasCourt.toInt ∧ iM_hasCourt.toInt ≤ 1) (b_iM_undos : 0 ≤ iM_undos.toInt ∧ iM_undos.toInt ≤ 16) (b_iM_images : 0 ≤ iM_images.toInt ∧ iM_images.toInt ≤ 3) (b_iM_scale : 1 ≤ iM_scale.toInt ∧ iM_scale.toInt ≤ 1296) (b_iM_breaths : 0 ≤ iM_breaths.toInt ∧ iM_breaths.toInt ≤ 399) (b_iM_cutMany : 0 ≤ iM_cutMany.toInt ∧ iM_cutMany.toInt ≤ 399) (r_T : ImpP (iM_token.toInt = 2) (iM_nameSize.toInt ≤ 8)) (r_P : POk fM_fresh fM_read) (hul : ImpP (iM_failed.toInt ≤ 0) ((fM_fresh 3).toInt ≤ 3)) : Met l yX7_unsureLine (Cond.code yX7_unsureLine cX7_unsureLine 4 none :: wG) ({ frames := 7, cells := 0, slots := 0, locals := 175 }) (va_Pc [.ref oM] (Pw dC dI sz [(oc7 oM iM_thrown rM_tape iM_taped iM_size iM_at iM_end iM_token iM_whole iM_nameSize iM_fault iM_place iM_trouble rM_letters iM_failed iM_hasCourt rM_r rM_fresh rM_told rM_read rM_st rM_undone rM_kept iM_undos iM_images rM_fresher iM_fresherSize iM_scale iM_night rM_heardRow rM_cutRow iM_breaths iM_cutMany iM_allBreaths rM_trial rM_words iM_fewestBreaths iM_orderMany iM_orderSum iM_leastOrder rM_often iM_setMany iM_someOf iM_allOf iM_allWeight iM_enoughWeight iM_worthSum iM_firstRest iM_leastDrawn), (arI rM_tape kM_tape 900 fM_tape), (arI rM_letters kM_letters 8 fM_letters), (arI rM_fresh kM_fresh 287 fM_fresh), (arI rM_read kM_read 90 fM_read)] [(kM_tape, .int), (kM_letters, .int), (kM_fresh, .int), (kM_read, .int)])) (va_Qv (fun (_ : Nat) => True) (fun (_ : Nat) (t : State) => ∃ (niM_at : Int32) (niM_end : Int32) (niM_token : Int32) (niM_whole : Int32) (niM_nameSize : Int32) (niM_fault : Int32) (niM_place : Int32) (niM_failed : Int32) (nfM_letters : Nat → Int32) (nfM_fresh : Nat → Int32), (0 ≤ niM_end.toInt ∧ niM_end.toInt ≤ 900) ∧ (0 ≤ niM_nameSize.toInt ∧ niM_nameSize.toInt ≤ 900) ∧ (0 ≤ niM_failed.toInt ∧ niM_failed.toInt ≤ 1) ∧ (iM_end.toInt ≤ niM_end.toInt) ∧ (ImpP (niM_token.toInt = 2) (niM_nameSize.toInt ≤ 8)) ∧ (iM_failed.toInt ≤ niM_failed.toInt) ∧ (ImpP (niM_failed.toInt ≤ 0 ∧ niM_token.toInt = 59 ) (iM_end.toInt + 1 ≤ niM_end.toInt)) ∧ (POk nfM_fresh fM_read) ∧ (PX7_unsureLine fM_tape iM_size iM_at iM_end iM_token iM_whole iM_nameSize iM_fault iM_place fM_letters iM_failed fM_fresh = (niM_at, niM_end, niM_token, niM_whole, niM_nameSize, niM_fault, niM_place, niM_failed, nfM_letters, nfM_fresh)) ∧ Bw dC dI (va_A [(oc7 oM iM_thrown rM_tape iM_taped iM_size iM_at iM_end iM_token iM_whole iM_nameSize iM_fault iM_place iM_trouble rM_letters iM_failed iM_hasCourt rM_r rM_fresh rM_told rM_read rM_st rM_undone rM_kept iM_undos iM_images rM_fresher iM_fresherSize iM_scale iM_night rM_heardRow rM_cutRow iM_breaths iM_cutMany iM_allBreaths rM_trial rM_words iM_fewestBreaths iM_orderMany iM_orderSum iM_leastOrder rM_often iM_setMany iM_someOf iM_allOf iM_allWeight iM_enoughWeight iM_worthSum iM_firstRest iM_leastDrawn), (arI rM_tape kM_tape 900 fM_tape), (arI rM_letters kM_letters 8 fM_letters), (arI rM_fresh kM_fresh 287 fM_fresh), (arI rM_read kM_read 90 fM_read)] sz) [(oc7 oM iM_thrown rM_tape iM_taped iM_size niM_at niM_end niM_token niM_whole niM_nameSize niM_fault niM_place iM_trouble rM_letters niM_failed iM_hasCourt rM_r rM_fresh rM_told rM_read rM_st rM_undone rM_kept iM_undos iM_images rM_fresher iM_fresherSize iM_scale iM_night rM_heardRow rM_cutRow iM_breaths iM_cutMany iM_allBreaths rM_trial rM_words iM_fewestBreaths iM_orderMany iM_orderSum iM_leastOrder rM_often iM_setMany iM_someOf iM_allOf iM_allWeight iM_enoughWeight iM_worthSum iM_firstRest iM_leastDrawn), (arI rM_tape kM_tape 900 fM_tape), (arI rM_letters kM_letters 8 nfM_letters), (arI rM_fresh kM_fresh 287 nfM_fresh), (arI rM_read kM_read 90 fM_read)] [(kM_tape, .int), (kM_letters, .int), (kM_fresh, .int), (kM_read, .int)] t) (va_A [(oc7 oM iM_thrown rM_tape iM_taped iM_size iM_at iM_end iM_token iM_whole iM_nameSize iM_fault iM_place iM_trouble rM_letters iM_failed iM_hasCourt rM_r rM_fresh rM_told rM_read rM_st rM_undone rM_kept iM_undos iM_images rM_fresher iM_fresherSize iM_scale iM_night rM_heardRow rM_cutRow iM_breaths iM_cutMany iM_allBreaths rM_trial rM_words iM_fewestBreaths iM_orderMany iM_orderSum iM_leastOrder rM_often iM_setMany iM_someOf iM_allOf iM_allWeight iM_enoughWeight iM_worthSum iM_firstRest iM_leastDrawn), (arI rM_tape kM_tape 900 fM_tape), (arI rM_letters kM_letters 8 fM_letters), (arI rM_fresh kM_fresh 287 fM_fresh), (arI rM_read kM_read 90 fM_read)] sz)) 0 0 (va_A [(oc7 oM iM_thrown rM_tape iM_taped iM_size iM_at iM_end iM_token iM_whole iM_nameSize iM_fault iM_place iM_trouble rM_letters iM_failed iM_hasCourt rM_r rM_fresh rM_told rM_read rM_st rM_undone rM_kept iM_undos iM_images rM_fresher iM_fresherSize iM_scale iM_night rM_heardRow rM_cutRow iM_breaths iM_cutMany iM_allBreaths rM_trial rM_words iM_fewestBreaths iM_orderMany iM_orderSum iM_leastOrder rM_often iM_setMany iM_someOf iM_allOf iM_allWeight iM_enoughWeight iM_worthSum iM_firstRest iM_leastDrawn), (arI rM_tape kM_tape 900 fM_tape), (arI rM_letters kM_letters 8 fM_letters), (arI rM_fresh kM_fresh 287 fM_fresh), (arI rM_read kM_read 90 fM_read)] sz) := by
  refine Met.ofW (cc := cX7_unsureLine) (maxL := 4) (ret := none) pnX7 rfl ?_
  intro p e s m args below meth c s₁ B hml hv
  obtain ⟨rfl, hsz, hP, hK, hD0, hE⟩ := hv
  have hx := B.exec
  have hb := B.bytes
  have hr := B.returns
  have hts : ∀ w ∈ wG, w.before ([.ref oM] : List Value).toArray s = true := fun w h => atoms_spec (ws := Cond.code yX7_unsureLine cX7_unsureLine 4 none :: wG) B.pre w (List.mem_cons_of_mem _ h)
  have hown : s.vm.findClass RX7 = some m.cls := own_of B.named rfl
  have hlocks := B.notSynchronized
  subst hsz
  have hD := hD0.self (sz := s.heap.size)
  generalize hAe : va_A [(oc7 oM iM_thrown rM_tape iM_taped iM_size iM_at iM_end iM_token iM_whole iM_nameSize iM_fault iM_place iM_trouble rM_letters iM_failed iM_hasCourt rM_r rM_fresh rM_told rM_read rM_st rM_undone rM_kept iM_undos iM_images rM_fresher iM_fresherSize iM_scale iM_night rM_heardRow rM_cutRow iM_breaths iM_cutMany iM_allBreaths rM_trial rM_words iM_fewestBreaths iM_orderMany iM_orderSum iM_leastOrder rM_often iM_setMany iM_someOf iM_allOf iM_allWeight iM_enoughWeight iM_worthSum iM_firstRest iM_leastDrawn), (arI rM_tape kM_tape 900 fM_tape), (arI rM_letters kM_letters 8 fM_letters), (arI rM_fresh kM_fresh 287 fM_fresh), (arI rM_read kM_read 90 fM_read)] s.heap.size = A at hD hE ⊢
  have hA : ∀ q : Nat, s.heap.size ≤ q → A q := fun q h => by rw [← hAe]; exact Or.inr h
  have hS : va_S A s.heap s.heap [] := va_S.rf
  have hl := lv_entry ([.ref oM]) (n := 4) (Nat.le_of_ble_eq_true rfl)
  rw [lg_entry_eq]
  generalize (lg_sl ([.ref oM]) ++ List.replicate (4 - (lg_sl ([.ref oM])).length) Slot.unset).toArray = ls at hl ⊢
  have hl : lv_has ls 4 [(0, .ref oM)] := hl
  have hG := PX7_unsureLine_eq fM_tape iM_size iM_at iM_end iM_token iM_whole iM_nameSize iM_fault iM_place fM_letters iM_failed fM_fresh
  have pl_fM_fresh := r_P.lins
  refine lv_aload_n hx hb dX7_unsureLine_0 rfl (lv_at hl 0 rfl) ?_
  refine va_get (D := (dC, dI)) (ci := 7) (v := .int iM_failed) (C := RX7) (T := TX7) (N := 48) hx hb hts inX7 hown hK hP 0 rfl rfl 13 (by decide) (hts _ wd_380) (fun _ h9 => h9) rfl dX7_unsureLine_1 ?_
  refine lv_if_eq (tgt := 8) hx hb dX7_unsureLine_4 (by decide) (fun c_5874 => ?_) (fun c_5874 => ?_)
  · skip
    have hG := hG.trans (if_pos c_5874)
    have gc_5874 := ti_eq c_5874 rfl kc_0
    have h_5875 : (fM_fresh 3).toInt ≤ 3 := hul (om_02e9bb08 gc_5874)
    clear hul
    refine lv_bipush (v := 117) hx hb dX7_unsureLine_8 (by decide) ?_
    refine lv_iconst (v := 2) hx hb dX7_unsureLine_10 (by decide) ?_
    refine lv_aload_n hx hb dX7_unsureLine_11 rfl (lv_at hl 0 rfl) ?_
    refine va_get (D := (dC, dI)) (ci := 7) (v := .ref rM_fresh) (C := RX7) (T := TX7) (N := 48) hx hb hts inX7 hown hK hP 0 rfl rfl 16 (by decide) (hts _ wd_156) (fun _ h9 => h9) rfl dX7_unsureLine_12 ?_
    refine lv_iconst (v := 3) hx hb dX7_unsureLine_15 (by decide) ?_
    refine va_iald hx hb hK hP 3 2 rfl rfl (by unfold vp_in; decide) dX7_unsureLine_16 ?_
    refine lv_topi (fun x_5876 ex_5876 => ?_)
    have hG := hG.trans (lt_eq ex_5876)
    have cx_5876 : (fM_fresh 3).toInt = x_5876.toInt := congrArg Int32.toInt (show fM_fresh 3 = x_5876 from ex_5876.symm)
    refine lv_imul hx hb dX7_unsureLine_17 ?_
    refine lv_topi (fun x_5877 ex_5877 => ?_)
    have hG := hG.trans (lt_eq ex_5877)
    have vx_5877 : x_5877.toInt = 2 * x_5876.toInt := ti_mul ex_5877 kc_2 rfl (om_ced40591 pl_fM_fresh.2.2.2.1.1 cx_5876) (om_88ac8d02 pl_fM_fresh.2.2.2.1.2 cx_5876)
    refine lv_iadd hx hb dX7_unsureLine_18 ?_
    refine lv_topi (fun x_5878 ex_5878 => ?_)
    have hG := hG.trans (lt_eq ex_5878)
    have vx_5878 : x_5878.toInt = 2 * x_5876.toInt + 117 := om_67044d60 (ti_add ex_5878 kc_117 vx_5877 (om_530ef2ed pl_fM_fresh.2.2.2.1.1 cx_5876) (om_49eb7f00 pl_fM_fresh.2.2.2.1.2 cx_5876))
    refine lv_istore_n (lv' := [(1, .int x_5878), (0, .ref oM)]) hx hb dX7_unsureLine_19 rfl hl (by decide) rfl (fun ls hl => ?_)
    refine lv_aload_n hx hb dX7_unsureLine_20 rfl (lv_at hl 1 rfl) ?_
    have hMs := ml_of hD [true, false, true, true, true] (wc := [(oc7 oM iM_thrown rM_tape iM_taped iM_size iM_at iM_end iM_token iM_whole iM_nameSize iM_fault iM_place iM_trouble rM_letters iM_failed iM_hasCourt rM_r rM_fresh rM_told rM_read rM_st rM_undone rM_kept iM_undos iM_images rM_fresher iM_fresherSize iM_scale iM_night rM_heardRow rM_cutRow iM_breaths iM_cutMany iM_allBreaths rM_trial rM_words iM_fewestBreaths iM_orderMany iM_orderSum iM_leastOrder rM_often iM_setMany iM_someOf iM_allOf iM_allWeight iM_enoughWeight iM_worthSum iM_firstRest iM_leastDrawn), (arI rM_letters kM_letters 8 fM_letters), (arI rM_fresh kM_fresh 287 fM_fresh), (arI rM_read kM_read 90 fM_read)]) rfl
    have hFc := va_freeM hD hS hA _ hMs
    refine va_calli (va_runV (As := []) (rest := []) ⟨hx, hb, hml, hown, hts⟩ (tX7_nodeHere l dC dI _ oM iM_thrown rM_tape iM_taped iM_size iM_at iM_end iM_token iM_whole iM_nameSize iM_fault iM_place iM_trouble rM_letters fM_letters kM_letters iM_failed iM_hasCourt rM_r rM_fresh fM_fresh kM_fresh rM_told rM_read fM_read kM_read rM_st rM_undone rM_kept iM_undos iM_images rM_fresher iM_fresherSize iM_scale iM_night rM_heardRow rM_cutRow iM_breaths iM_cutMany iM_allBreaths rM_trial rM_words iM_fewestBreaths iM_orderMany iM_orderSum iM_leastOrder rM_often iM_setMany iM_someOf iM_allOf iM_allWeight iM_enoughWeight iM_worthSum iM_firstRest iM_leastDrawn b_iM_taped b_iM_size b_iM_end b_iM_nameSize b_iM_failed b_iM_hasCourt b_iM_undos b_iM_images b_iM_scale b_iM_breaths b_iM_cutMany r_T r_P) (cwV 0 hts (wd_V wd_486 wd_487 wd_488 wd_5 (wd_c wd_489)) rfl rfl rfl dv_yX7_nodeHere_0 ⟨Nat.le_of_ble_eq_true rfl, Nat.le_of_ble_eq_true rfl⟩) ⟨Pw.fb, recvX7 hK hP (q0 := 0) rfl, fun U hU hW => Pw.to (hP.ms _ hMs) (hD.ms _ hMs) (hK.ms [false, true, true, true] rfl) hE hS hFc hU hW⟩ rfl rfl hl.1 rfl (lv_room (Nat.le_of_ble_eq_true rfl)) dX7_unsureLine_21 ⟨Nat.le_of_ble_eq_true rfl, Nat.le_of_ble_eq_true rfl⟩) hS (fun q _ h => hFc q h) hFc (fun r u t H locs ht hvm hw hB hz1 hk1 hS => ?_)
    have hru9 := hw.2
    have hw := hw.1
    refine ex_3_4 hB (fun x_5879 x_5880 x_5881 b_x_5881 e_x_5879_0 e_x_5879_1 e_x_5879_2 hB => ?_)
    obtain ⟨hP, hD⟩ := Bw.goN (ws' := [(oc7 oM iM_thrown rM_tape iM_taped iM_size iM_at iM_end iM_token iM_whole iM_nameSize x_5879 x_5880 iM_trouble rM_letters x_5881 iM_hasCourt rM_r rM_fresh rM_told rM_read rM_st rM_undone rM_kept iM_undos iM_images rM_fresher iM_fresherSize iM_scale iM_night rM_heardRow rM_cutRow iM_breaths iM_cutMany iM_allBreaths rM_trial rM_words iM_fewestBreaths iM_orderMany iM_orderSum iM_leastOrder rM_often iM_setMany iM_someOf iM_allOf iM_allWeight iM_enoughWeight iM_worthSum iM_firstRest iM_leastDrawn), (arI rM_tape kM_tape 900 fM_tape), (arI rM_letters kM_letters 8 fM_letters), (arI rM_fresh kM_fresh 287 fM_fresh), (arI rM_read kM_read 90 fM_read)]) hB rfl ht hP hD _ hMs hk1 hFc rfl
    clear hz1 hk1 hvm ht hB hMs
    rw [← hru9] at e_x_5879_2
    obtain ⟨x_5882, rfl⟩ : ∃ z, z = r := ⟨_, rfl⟩
    have hG := hG.trans (un4_eq e_x_5879_2)
    have lx_5882 := hw.2
    have ux_5882 := hw.2
    refine lv_istore_n (lv' := [(2, .int x_5882), (1, .int x_5878), (0, .ref oM)]) hx hb dX7_unsureLine_24 rfl hl (by decide) rfl (fun ls hl => ?_)
    refine lv_aload_n hx hb dX7_unsureLine_25 rfl (lv_at hl 2 rfl) ?_
    refine va_get (D := (dC, dI)) (ci := 7) (v := .int x_5881) (C := RX7) (T := TX7) (N := 48) hx hb hts inX7 hown hK hP 0 rfl rfl 13 (by decide) (hts _ wd_380) (fun _ h9 => h9) rfl dX7_unsureLine_26 ?_
    refine lv_if_ne (tgt := 53) hx hb dX7_unsureLine_29 (by decide) (fun c_5883 => ?_) (fun c_5883 => ?_)
    · skip
      have hG := hG.trans (if_neg c_5883)
      have gc_5883 := ti_ne c_5883 rfl kc_0
      replace gc_5883 : (-1) * x_5881.toInt + 1 ≤ 0 := om_e3003f79 gc_5883 b_x_5881.1
      clear e_x_5879_1
      refine lv_iconst (v := 0) hx hb dX7_unsureLine_53 (by decide) ?_
      refine lv_istore_n (lv' := [(3, .int 0), (2, .int x_5882), (1, .int x_5878), (0, .ref oM)]) hx hb dX7_unsureLine_54 rfl hl (by decide) rfl (fun ls hl => ?_)
      have hl := lv_sub hl (l' := [(3, .int 0), (2, .int x_5882), (1, .int x_5878), (0, .ref oM)]) [0, 1, 2, 3] rfl
      have key_n_5888 : ∀ (n_5888 : Nat) (z_5884 : Int32) (z_5885 : Int32) (z_5886 : Int32) (z_5887 : Int32) (H : Heap) (locs : List Loc) (ls : Array Slot), (0 ≤ z_5885.toInt ∧ z_5885.toInt ≤ 1) → (0 ≤ z_5884.toInt ∧ z_5884.toInt ≤ 4) → (x_5881.toInt ≤ z_5885.toInt) → (4 - z_5884.toInt).toNat < n_5888 → (PX7_unsureLine fM_tape iM_size iM_at iM_end iM_token iM_whole iM_nameSize iM_fault iM_place fM_letters iM_failed fM_fresh = HX7_unsureLine_1 fM_tape iM_size iM_at iM_end iM_token iM_whole iM_nameSize fM_letters fM_fresh n_5888 z_5884 z_5885 z_5886 z_5887) → va_P (dC, dI) vwCl [(oc7 oM iM_thrown rM_tape iM_taped iM_size iM_at iM_end iM_token iM_whole iM_nameSize z_5886 z_5887 iM_trouble rM_letters z_5885 iM_hasCourt rM_r rM_fresh rM_told rM_read rM_st rM_undone rM_kept iM_undos iM_images rM_fresher iM_fresherSize iM_scale iM_night rM_heardRow rM_cutRow iM_breaths iM_cutMany iM_allBreaths rM_trial rM_words iM_fewestBreaths iM_orderMany iM_orderSum iM_leastOrder rM_often iM_setMany iM_someOf iM_allOf iM_allWeight iM_enoughWeight iM_worthSum iM_firstRest iM_leastDrawn), (arI rM_tape kM_tape 900 fM_tape), (arI rM_letters kM_letters 8 fM_letters), (arI rM_fresh kM_fresh 287 fM_fresh), (arI rM_read kM_read 90 fM_read)] H → va_D A [(oc7 oM iM_thrown rM_tape iM_taped iM_size iM_at iM_end iM_token iM_whole iM_nameSize z_5886 z_5887 iM_trouble rM_letters z_5885 iM_hasCourt rM_r rM_fresh rM_told rM_read rM_st rM_undone rM_kept iM_undos iM_images rM_fresher iM_fresherSize iM_scale iM_night rM_heardRow rM_cutRow iM_breaths iM_cutMany iM_allBreaths rM_trial rM_words iM_fewestBreaths iM_orderMany iM_orderSum iM_leastOrder rM_often iM_setMany iM_someOf iM_allOf iM_allWeight iM_enoughWeight iM_worthSum iM_firstRest iM_leastDrawn), (arI rM_tape kM_tape 900 fM_tape), (arI rM_letters kM_letters 8 fM_letters), (arI rM_fresh kM_fresh 287 fM_fresh), (arI rM_read kM_read 90 fM_read)] → va_S A s.heap H locs → lv_has ls 4 [(3, .int z_5884), (2, .int x_5882), (1, .int x_5878), (0, .ref oM)] → W p l e (headSpec (Cond.code yX7_unsureLine cX7_unsureLine 4 none :: wG) ({ frames := 7, cells := 0, slots := 0, locals := 175 })).room s m ([.ref oM] : List Value).toArray below meth c H locs 0 0 (MQ below (va_Qv (fun (_ : Nat) => True) (fun (_ : Nat) (t : State) => ∃ (niM_at : Int32) (niM_end : Int32) (niM_token : Int32) (niM_whole : Int32) (niM_nameSize : Int32) (niM_fault : Int32) (niM_place : Int32) (niM_failed : Int32) (nfM_letters : Nat → Int32) (nfM_fresh : Nat → Int32), (0 ≤ niM_end.toInt ∧ niM_end.toInt ≤ 900) ∧ (0 ≤ niM_nameSize.toInt ∧ niM_nameSize.toInt ≤ 900) ∧ (0 ≤ niM_failed.toInt ∧ niM_failed.toInt ≤ 1) ∧ (iM_end.toInt ≤ niM_end.toInt) ∧ (ImpP (niM_token.toInt = 2) (niM_nameSize.toInt ≤ 8)) ∧ (iM_failed.toInt ≤ niM_failed.toInt) ∧ (ImpP (niM_failed.toInt ≤ 0 ∧ niM_token.toInt = 59 ) (iM_end.toInt + 1 ≤ niM_end.toInt)) ∧ (POk nfM_fresh fM_read) ∧ (PX7_unsureLine fM_tape iM_size iM_at iM_end iM_token iM_whole iM_nameSize iM_fault iM_place fM_letters iM_failed fM_fresh = (niM_at, niM_end, niM_token, niM_whole, niM_nameSize, niM_fault, niM_place, niM_failed, nfM_letters, nfM_fresh)) ∧ Bw dC dI A [(oc7 oM iM_thrown rM_tape iM_taped iM_size niM_at niM_end niM_token niM_whole niM_nameSize niM_fault niM_place iM_trouble rM_letters niM_failed iM_hasCourt rM_r rM_fresh rM_told rM_read rM_st rM_undone rM_kept iM_undos iM_images rM_fresher iM_fresherSize iM_scale iM_night rM_heardRow rM_cutRow iM_breaths iM_cutMany iM_allBreaths rM_trial rM_words iM_fewestBreaths iM_orderMany iM_orderSum iM_leastOrder rM_often iM_setMany iM_someOf iM_allOf iM_allWeight iM_enoughWeight iM_worthSum iM_firstRest iM_leastDrawn), (arI rM_tape kM_tape 900 fM_tape), (arI rM_letters kM_letters 8 nfM_letters), (arI rM_fresh kM_fresh 287 nfM_fresh), (arI rM_read kM_read 90 fM_read)] [(kM_tape, .int), (kM_letters, .int), (kM_fresh, .int), (kM_read, .int)] t) A) ([.ref oM] : List Value).toArray s 0 0 A) (F0 m 55 ls []) := by
        intro n_5888
        induction n_5888 with
        | zero => intro z_5884 z_5885 z_5886 z_5887 H locs ls b_z_5885 hi0_n_5888 hi1_n_5888 hm; exact absurd hm (Nat.not_lt_zero _)
        | succ n_5888 ih_n_5888 =>
          intro z_5884 z_5885 z_5886 z_5887 H locs ls b_z_5885 hi0_n_5888 hi1_n_5888 hm_n_5888 hG hP hD hS hl
          have hG := hG.trans (HX7_unsureLine_1_eq _ _ _ _ _ _ _ _ _ _ _ _ _ _)
          refine lv_iload_n hx hb dX7_unsureLine_55 rfl (lv_at hl 0 rfl) ?_
          refine lv_aload_n hx hb dX7_unsureLine_56 rfl (lv_at hl 3 rfl) ?_
          refine va_get (D := (dC, dI)) (ci := 7) (v := .ref rM_fresh) (C := RX7) (T := TX7) (N := 48) hx hb hts inX7 hown hK hP 0 rfl rfl 16 (by decide) (hts _ wd_156) (fun _ h9 => h9) rfl dX7_unsureLine_57 ?_
          refine lv_iconst (v := 3) hx hb dX7_unsureLine_60 (by decide) ?_
          refine va_iald hx hb hK hP 3 2 rfl rfl (by unfold vp_in; decide) dX7_unsureLine_61 ?_
          refine lv_topi (fun x_5889 ex_5889 => ?_)
          have hG := hG.trans (lt_eq ex_5889)
          have cx_5889 : (fM_fresh 3).toInt = x_5889.toInt := congrArg Int32.toInt (show fM_fresh 3 = x_5889 from ex_5889.symm)
          refine lv_icmp_ge (tgt := 102) hx hb dX7_unsureLine_62 (by decide) (fun c_5890 => ?_) (fun c_5890 => ?_)
          · skip
            have hG := hG.trans (if_pos c_5890)
            have gc_5890 := ti_le c_5890 rfl rfl
            refine lv_aload_n hx hb dX7_unsureLine_102 rfl (lv_at hl 3 rfl) ?_
            have hMs := ml_of hD [true, true, true, false, false] (wc := [(oc7 oM iM_thrown rM_tape iM_taped iM_size iM_at iM_end iM_token iM_whole iM_nameSize z_5886 z_5887 iM_trouble rM_letters z_5885 iM_hasCourt rM_r rM_fresh rM_told rM_read rM_st rM_undone rM_kept iM_undos iM_images rM_fresher iM_fresherSize iM_scale iM_night rM_heardRow rM_cutRow iM_breaths iM_cutMany iM_allBreaths rM_trial rM_words iM_fewestBreaths iM_orderMany iM_orderSum iM_leastOrder rM_often iM_setMany iM_someOf iM_allOf iM_allWeight iM_enoughWeight iM_worthSum iM_firstRest iM_leastDrawn), (arI rM_tape kM_tape 900 fM_tape), (arI rM_letters kM_letters 8 fM_letters)]) rfl
            have hFc := va_freeM hD hS hA _ hMs
            refine va_callv (va_runV (As := []) (rest := []) ⟨hx, hb, hml, hown, hts⟩ (tX7_pass l dC dI _ oM iM_thrown rM_tape fM_tape kM_tape iM_taped iM_size iM_at iM_end iM_token iM_whole iM_nameSize z_5886 z_5887 iM_trouble rM_letters fM_letters kM_letters z_5885 iM_hasCourt rM_r rM_fresh rM_told rM_read rM_st rM_undone rM_kept iM_undos iM_images rM_fresher iM_fresherSize iM_scale iM_night rM_heardRow rM_cutRow iM_breaths iM_cutMany iM_allBreaths rM_trial rM_words iM_fewestBreaths iM_orderMany iM_orderSum iM_leastOrder rM_often iM_setMany iM_someOf iM_allOf iM_allWeight iM_enoughWeight iM_worthSum iM_firstRest iM_leastDrawn b_iM_taped b_iM_size b_iM_end b_iM_nameSize b_z_5885 b_iM_hasCourt b_iM_undos b_iM_images b_iM_scale b_iM_breaths b_iM_cutMany r_T) (cwV 0 hts (wd_V wd_454 wd_455 wd_456 wd_5 (wd_c wd_457)) rfl rfl rfl dv_yX7_pass_0 ⟨Nat.le_of_ble_eq_true rfl, Nat.le_of_ble_eq_true rfl⟩) ⟨Pw.fb, recvX7 hK hP (q0 := 0) rfl, fun U hU hW => Pw.to (hP.ms _ hMs) (hD.ms _ hMs) (hK.ms [true, true, false, false] rfl) hE hS hFc hU hW⟩ rfl rfl hl.1 rfl (lv_room (Nat.le_of_ble_eq_true rfl)) dX7_unsureLine_103 ⟨Nat.le_of_ble_eq_true rfl, Nat.le_of_ble_eq_true rfl⟩) hS (fun q _ h => hFc q h) hFc (fun u t H locs ht hvm hw hB hz1 hk1 hS => ?_)
            refine ex_6_6 hB (fun x_5891 x_5892 x_5893 x_5894 x_5895 f_5896 b_x_5892 b_x_5895 e_x_5891_0 e_x_5891_1 e_x_5891_2 e_x_5891_3 hB => ?_)
            obtain ⟨hP, hD⟩ := Bw.goN (ws' := [(oc7 oM iM_thrown rM_tape iM_taped iM_size x_5891 x_5892 x_5893 x_5894 x_5895 z_5886 z_5887 iM_trouble rM_letters z_5885 iM_hasCourt rM_r rM_fresh rM_told rM_read rM_st rM_undone rM_kept iM_undos iM_images rM_fresher iM_fresherSize iM_scale iM_night rM_heardRow rM_cutRow iM_breaths iM_cutMany iM_allBreaths rM_trial rM_words iM_fewestBreaths iM_orderMany iM_orderSum iM_leastOrder rM_often iM_setMany iM_someOf iM_allOf iM_allWeight iM_enoughWeight iM_worthSum iM_firstRest iM_leastDrawn), (arI rM_tape kM_tape 900 fM_tape), (arI rM_letters kM_letters 8 f_5896), (arI rM_fresh kM_fresh 287 fM_fresh), (arI rM_read kM_read 90 fM_read)]) hB rfl ht hP hD _ hMs hk1 hFc rfl
            clear hz1 hk1 hvm ht hB hMs
            have hG := hG.trans (un6_eq e_x_5891_3)
            clear r_T
            refine lv_aload_n hx hb dX7_unsureLine_106 rfl (lv_at hl 3 rfl) ?_
            refine lv_iconst (v := 0) hx hb dX7_unsureLine_107 (by decide) ?_
            refine lv_bipush (v := 99) hx hb dX7_unsureLine_108 (by decide) ?_
            have hMs := ml_of hD [true, true, true, false, false] (wc := [(oc7 oM iM_thrown rM_tape iM_taped iM_size x_5891 x_5892 x_5893 x_5894 x_5895 z_5886 z_5887 iM_trouble rM_letters z_5885 iM_hasCourt rM_r rM_fresh rM_told rM_read rM_st rM_undone rM_kept iM_undos iM_images rM_fresher iM_fresherSize iM_scale iM_night rM_heardRow rM_cutRow iM_breaths iM_cutMany iM_allBreaths rM_trial rM_words iM_fewestBreaths iM_orderMany iM_orderSum iM_leastOrder rM_often iM_setMany iM_someOf iM_allOf iM_allWeight iM_enoughWeight iM_worthSum iM_firstRest iM_leastDrawn), (arI rM_tape kM_tape 900 fM_tape), (arI rM_letters kM_letters 8 f_5896)]) rfl
            have hFc := va_freeM hD hS hA _ hMs
            refine va_calli (va_runV (As := [.int 0, .int 99]) (rest := []) ⟨hx, hb, hml, hown, hts⟩ (tX7_number l dC dI _ oM iM_thrown rM_tape fM_tape kM_tape iM_taped iM_size x_5891 x_5892 x_5893 x_5894 x_5895 z_5886 z_5887 iM_trouble rM_letters f_5896 kM_letters z_5885 iM_hasCourt rM_r rM_fresh rM_told rM_read rM_st rM_undone rM_kept iM_undos iM_images rM_fresher iM_fresherSize iM_scale iM_night rM_heardRow rM_cutRow iM_breaths iM_cutMany iM_allBreaths rM_trial rM_words iM_fewestBreaths iM_orderMany iM_orderSum iM_leastOrder rM_often iM_setMany iM_someOf iM_allOf iM_allWeight iM_enoughWeight iM_worthSum iM_firstRest iM_leastDrawn 0 99 b_iM_taped b_iM_size b_x_5892 b_x_5895 b_z_5885 b_iM_hasCourt b_iM_undos b_iM_images b_iM_scale b_iM_breaths b_iM_cutMany e_x_5891_1 (om_b0b40937 kc_0 kc_99)) (cwV 2 hts (wd_V wd_446 wd_447 wd_448 wd_5 (wd_c wd_449)) rfl rfl rfl dv_yX7_number_2 ⟨Nat.le_of_ble_eq_true rfl, Nat.le_of_ble_eq_true rfl⟩) ⟨Pw.fb, recvX7 hK hP (q0 := 0) rfl, fun U hU hW => Pw.to (hP.ms _ hMs) (hD.ms _ hMs) (hK.ms [true, true, false, false] rfl) hE hS hFc hU hW⟩ rfl rfl hl.1 rfl (lv_room (Nat.le_of_ble_eq_true rfl)) dX7_unsureLine_110 ⟨Nat.le_of_ble_eq_true rfl, Nat.le_of_ble_eq_true rfl⟩) hS (fun q _ h => hFc q h) hFc (fun r u t H locs ht hvm hw hB hz1 hk1 hS => ?_)
            have hru9 := hw.2
            have hw := hw.1
            refine ex_9_8 hB (fun x_5897 x_5898 x_5899 x_5900 x_5901 x_5902 x_5903 x_5904 f_5905 b_x_5898 b_x_5901 b_x_5904 e_x_5897_0 e_x_5897_1 e_x_5897_2 e_x_5897_3 e_x_5897_4 hB => ?_)
            obtain ⟨hP, hD⟩ := Bw.goN (ws' := [(oc7 oM iM_thrown rM_tape iM_taped iM_size x_5897 x_5898 x_5899 x_5900 x_5901 x_5902 x_5903 iM_trouble rM_letters x_5904 iM_hasCourt rM_r rM_fresh rM_told rM_read rM_st rM_undone rM_kept iM_undos iM_images rM_fresher iM_fresherSize iM_scale iM_night rM_heardRow rM_cutRow iM_breaths iM_cutMany iM_allBreaths rM_trial rM_words iM_fewestBreaths iM_orderMany iM_orderSum iM_leastOrder rM_often iM_setMany iM_someOf iM_allOf iM_allWeight iM_enoughWeight iM_worthSum iM_firstRest iM_leastDrawn), (arI rM_tape kM_tape 900 fM_tape), (arI rM_letters kM_letters 8 f_5905), (arI rM_fresh kM_fresh 287 fM_fresh), (arI rM_read kM_read 90 fM_read)]) hB rfl ht hP hD _ hMs hk1 hFc rfl
            clear hz1 hk1 hvm ht hB hMs
            rw [← hru9] at e_x_5897_4
            obtain ⟨x_5906, rfl⟩ : ∃ z, z = r := ⟨_, rfl⟩
            have hG := hG.trans (un10_eq e_x_5897_4)
            have lx_5906 := hw.2
            have kl_0 := kc_0
            have kl_99 := kc_99
            clear e_x_5891_1
            clear e_x_5891_2
            refine lv_istore_n (lv' := [(3, .int x_5906), (2, .int x_5882), (1, .int x_5878), (0, .ref oM)]) hx hb dX7_unsureLine_113 rfl hl (by decide) rfl (fun ls hl => ?_)
            refine lv_aload_n hx hb dX7_unsureLine_114 rfl (lv_at hl 3 rfl) ?_
            refine va_get (D := (dC, dI)) (ci := 7) (v := .int x_5904) (C := RX7) (T := TX7) (N := 48) hx hb hts inX7 hown hK hP 0 rfl rfl 13 (by decide) (hts _ wd_380) (fun _ h9 => h9) rfl dX7_unsureLine_115 ?_
            refine lv_if_eq (tgt := 122) hx hb dX7_unsureLine_118 (by decide) (fun c_5907 => ?_) (fun c_5907 => ?_)
            · skip
              have hG := hG.trans (if_pos c_5907)
              have gc_5907 := ti_eq c_5907 rfl kc_0
              exact ((om_2e318dd7 gc_5883 hi1_n_5888 e_x_5897_2 gc_5907)).elim
            · skip
              have hG := hG.trans (if_neg c_5907)
              have gc_5907 := ti_ne c_5907 rfl kc_0
              replace gc_5907 : (-1) * x_5904.toInt + 1 ≤ 0 := om_e3003f79 gc_5907 b_x_5904.1
              exact wq_v hx hb hr 0 trivial (fun t ht hW => ⟨x_5897, x_5898, x_5899, x_5900, x_5901, x_5902, x_5903, x_5904, f_5905, fM_fresh, b_x_5898, b_x_5901, b_x_5904, (om_9348f5ae e_x_5891_0 e_x_5897_0), e_x_5897_1, (om_1fc3dec6 gc_5874 b_x_5904.1), (fun h9 => False.elim (om_a5fe015d gc_5907 h9.1)), r_P, hG, Bw.to hP hD hK ht hW⟩) hS dX7_unsureLine_121 hlocks
          · skip
            have hG := hG.trans (if_neg c_5890)
            have gc_5890 := ti_nle c_5890 rfl rfl
            refine lv_aload_n hx hb dX7_unsureLine_65 rfl (lv_at hl 3 rfl) ?_
            refine va_get (D := (dC, dI)) (ci := 7) (v := .int z_5885) (C := RX7) (T := TX7) (N := 48) hx hb hts inX7 hown hK hP 0 rfl rfl 13 (by decide) (hts _ wd_380) (fun _ h9 => h9) rfl dX7_unsureLine_66 ?_
            refine lv_if_ne (tgt := 96) hx hb dX7_unsureLine_69 (by decide) (fun c_5908 => ?_) (fun c_5908 => ?_)
            · skip
              have hG := hG.trans (if_neg c_5908)
              have gc_5908 := ti_ne c_5908 rfl kc_0
              replace gc_5908 : (-1) * z_5885.toInt + 1 ≤ 0 := om_e3003f79 gc_5908 b_z_5885.1
              obtain ⟨x_5909, ex_5909⟩ : ∃ z : Int32, z = z_5884 + Int32.ofInt 1 := ⟨_, rfl⟩
              have hG := hG.trans (lt_eq ex_5909)
              have vx_5909 : x_5909.toInt = z_5884.toInt + 1 := ti_add (y := 1) ex_5909 rfl kc_1 (om_4e4fce7e hi0_n_5888.1) (om_bae2951a hi0_n_5888.2)
              refine lv_iinc (v := x_5909) (lv' := [(3, .int x_5909), (2, .int x_5882), (1, .int x_5878), (0, .ref oM)]) hx hb dX7_unsureLine_96 hl (k := 0) rfl ex_5909.symm (by decide) rfl (fun ls hl => ?_)
              refine lv_goto (tgt := 55) hx hb dX7_unsureLine_99 (by decide) ?_
              exact ih_n_5888 x_5909 z_5885 z_5886 z_5887 _ _ _ b_z_5885 ⟨(om_83b90de5 hi0_n_5888.1 vx_5909), (om_8267bec5 pl_fM_fresh.2.2.2.1.2 cx_5889 gc_5890 vx_5909)⟩ hi1_n_5888 (ms_lt hm_n_5888 (om_ed22490e vx_5909) (om_e4be4046 pl_fM_fresh.2.2.2.1.2 cx_5889 gc_5890)) hG hP hD hS (lv_sub hl [0, 1, 2, 3] rfl)
            · skip
              have hG := hG.trans (if_pos c_5908)
              have gc_5908 := ti_eq c_5908 rfl kc_0
              exact ((om_30d40e72 gc_5883 hi1_n_5888 gc_5908)).elim
      exact key_n_5888 (((4 - (0 : Int32).toInt).toNat) + 1) 0 x_5881 x_5879 x_5880 _ _ _ b_x_5881 ⟨(om_b1de7dbe kc_0), (om_bebe011a kc_0)⟩ om_1cb5f934 (Nat.lt_add_one _) hG hP hD hS hl
    · skip
      have hG := hG.trans (if_pos c_5883)
      have gc_5883 := ti_eq c_5883 rfl kc_0
      have h_5910 : 1 ≤ (fM_fresh 1).toInt := e_x_5879_1 (om_02e9bb08 gc_5883)
      clear e_x_5879_1
      have h_5911 : x_5882.toInt < (fM_fresh 1).toInt := lx_5882.2.1 h_5910
      refine lv_aload_n hx hb dX7_unsureLine_32 rfl (lv_at hl 2 rfl) ?_
      refine va_get (D := (dC, dI)) (ci := 7) (v := .ref rM_fresh) (C := RX7) (T := TX7) (N := 48) hx hb hts inX7 hown hK hP 0 rfl rfl 16 (by decide) (hts _ wd_156) (fun _ h9 => h9) rfl dX7_unsureLine_33 ?_
      refine lv_bipush (v := 9) hx hb dX7_unsureLine_36 (by decide) ?_
      refine lv_iload_n hx hb dX7_unsureLine_38 rfl (lv_at hl 0 rfl) ?_
      refine lv_iadd hx hb dX7_unsureLine_39 ?_
      refine lv_topi (fun x_5912 ex_5912 => ?_)
      have hG := hG.trans (lt_eq ex_5912)
      have vx_5912 : x_5912.toInt = x_5882.toInt + 9 := om_296ce4dd (ti_add ex_5912 kc_9 rfl (om_090bbef4 lx_5882.1) (om_04280604 lx_5882.2.2))
      refine va_iald hx hb hK hP 3 2 rfl rfl (ti_in vx_5912 (om_edbe2e4c lx_5882.1) (om_60db842a lx_5882.2.2)) dX7_unsureLine_40 ?_
      refine lv_topi (fun x_5913 ex_5913 => ?_)
      have hG := hG.trans (lt_eq ex_5913)
      have kx_5913 : (fM_fresh x_5912.toNatClampNeg).toInt = x_5913.toInt := by rw [ex_5913]
      have cx_5913 : (fM_fresh (9 + x_5882.toNatClampNeg)).toInt = x_5913.toInt := by rw [show 9 + x_5882.toNatClampNeg = x_5912.toNatClampNeg from (om_32f1c3e7 (ti_cl (x := x_5882) rfl lx_5882.1) (ti_cl (x := x_5912) vx_5912 (om_edbe2e4c lx_5882.1)))]; exact kx_5913
      refine lv_if_eq (tgt := 53) hx hb dX7_unsureLine_41 (by decide) (fun c_5914 => ?_) (fun c_5914 => ?_)
      · skip
        have hG := hG.trans (if_pos c_5914)
        have gc_5914 := ti_eq c_5914 rfl kc_0
        refine lv_iconst (v := 0) hx hb dX7_unsureLine_53 (by decide) ?_
        refine lv_istore_n (lv' := [(3, .int 0), (2, .int x_5882), (1, .int x_5878), (0, .ref oM)]) hx hb dX7_unsureLine_54 rfl hl (by decide) rfl (fun ls hl => ?_)
        have hl := lv_sub hl (l' := [(3, .int 0), (2, .int x_5882), (1, .int x_5878), (0, .ref oM)]) [0, 1, 2, 3] rfl
        have key_n_5919 : ∀ (n_5919 : Nat) (z_5915 : Int32) (z_5916 : Int32) (z_5917 : Int32) (z_5918 : Int32) (H : Heap) (locs : List Loc) (ls : Array Slot), (0 ≤ z_5916.toInt ∧ z_5916.toInt ≤ 1) → (0 ≤ z_5915.toInt ∧ z_5915.toInt ≤ 4) → (x_5881.toInt ≤ z_5916.toInt) → (4 - z_5915.toInt).toNat < n_5919 → (PX7_unsureLine fM_tape iM_size iM_at iM_end iM_token iM_whole iM_nameSize iM_fault iM_place fM_letters iM_failed fM_fresh = HX7_unsureLine_0 fM_tape iM_size iM_at iM_end iM_token iM_whole iM_nameSize fM_letters fM_fresh x_5878 x_5882 n_5919 z_5915 z_5916 z_5917 z_5918) → va_P (dC, dI) vwCl [(oc7 oM iM_thrown rM_tape iM_taped iM_size iM_at iM_end iM_token iM_whole iM_nameSize z_5917 z_5918 iM_trouble rM_letters z_5916 iM_hasCourt rM_r rM_fresh rM_told rM_read rM_st rM_undone rM_kept iM_undos iM_images rM_fresher iM_fresherSize iM_scale iM_night rM_heardRow rM_cutRow iM_breaths iM_cutMany iM_allBreaths rM_trial rM_words iM_fewestBreaths iM_orderMany iM_orderSum iM_leastOrder rM_often iM_setMany iM_someOf iM_allOf iM_allWeight iM_enoughWeight iM_worthSum iM_firstRest iM_leastDrawn), (arI rM_tape kM_tape 900 fM_tape), (arI rM_letters kM_letters 8 fM_letters), (arI rM_fresh kM_fresh 287 fM_fresh), (arI rM_read kM_read 90 fM_read)] H → va_D A [(oc7 oM iM_thrown rM_tape iM_taped iM_size iM_at iM_end iM_token iM_whole iM_nameSize z_5917 z_5918 iM_trouble rM_letters z_5916 iM_hasCourt rM_r rM_fresh rM_told rM_read rM_st rM_undone rM_kept iM_undos iM_images rM_fresher iM_fresherSize iM_scale iM_night rM_heardRow rM_cutRow iM_breaths iM_cutMany iM_allBreaths rM_trial rM_words iM_fewestBreaths iM_orderMany iM_orderSum iM_leastOrder rM_often iM_setMany iM_someOf iM_allOf iM_allWeight iM_enoughWeight iM_worthSum iM_firstRest iM_leastDrawn), (arI rM_tape kM_tape 900 fM_tape), (arI rM_letters kM_letters 8 fM_letters), (arI rM_fresh kM_fresh 287 fM_fresh), (arI rM_read kM_read 90 fM_read)] → va_S A s.heap H locs → lv_has ls 4 [(3, .int z_5915), (2, .int x_5882), (1, .int x_5878), (0, .ref oM)] → W p l e (headSpec (Cond.code yX7_unsureLine cX7_unsureLine 4 none :: wG) ({ frames := 7, cells := 0, slots := 0, locals := 175 })).room s m ([.ref oM] : List Value).toArray below meth c H locs 0 0 (MQ below (va_Qv (fun (_ : Nat) => True) (fun (_ : Nat) (t : State) => ∃ (niM_at : Int32) (niM_end : Int32) (niM_token : Int32) (niM_whole : Int32) (niM_nameSize : Int32) (niM_fault : Int32) (niM_place : Int32) (niM_failed : Int32) (nfM_letters : Nat → Int32) (nfM_fresh : Nat → Int32), (0 ≤ niM_end.toInt ∧ niM_end.toInt ≤ 900) ∧ (0 ≤ niM_nameSize.toInt ∧ niM_nameSize.toInt ≤ 900) ∧ (0 ≤ niM_failed.toInt ∧ niM_failed.toInt ≤ 1) ∧ (iM_end.toInt ≤ niM_end.toInt) ∧ (ImpP (niM_token.toInt = 2) (niM_nameSize.toInt ≤ 8)) ∧ (iM_failed.toInt ≤ niM_failed.toInt) ∧ (ImpP (niM_failed.toInt ≤ 0 ∧ niM_token.toInt = 59 ) (iM_end.toInt + 1 ≤ niM_end.toInt)) ∧ (POk nfM_fresh fM_read) ∧ (PX7_unsureLine fM_tape iM_size iM_at iM_end iM_token iM_whole iM_nameSize iM_fault iM_place fM_letters iM_failed fM_fresh = (niM_at, niM_end, niM_token, niM_whole, niM_nameSize, niM_fault, niM_place, niM_failed, nfM_letters, nfM_fresh)) ∧ Bw dC dI A [(oc7 oM iM_thrown rM_tape iM_taped iM_size niM_at niM_end niM_token niM_whole niM_nameSize niM_fault niM_place iM_trouble rM_letters niM_failed iM_hasCourt rM_r rM_fresh rM_told rM_read rM_st rM_undone rM_kept iM_undos iM_images rM_fresher iM_fresherSize iM_scale iM_night rM_heardRow rM_cutRow iM_breaths iM_cutMany iM_allBreaths rM_trial rM_words iM_fewestBreaths iM_orderMany iM_orderSum iM_leastOrder rM_often iM_setMany iM_someOf iM_allOf iM_allWeight iM_enoughWeight iM_worthSum iM_firstRest iM_leastDrawn), (arI rM_tape kM_tape 900 fM_tape), (arI rM_letters kM_letters 8 nfM_letters), (arI rM_fresh kM_fresh 287 nfM_fresh), (arI rM_read kM_read 90 fM_read)] [(kM_tape, .int), (kM_letters, .int), (kM_fresh, .int), (kM_read, .int)] t) A) ([.ref oM] : List Value).toArray s 0 0 A) (F0 m 55 ls []) := by
          intro n_5919
          induction n_5919 with
          | zero => intro z_5915 z_5916 z_5917 z_5918 H locs ls b_z_5916 hi0_n_5919 hi1_n_5919 hm; exact absurd hm (Nat.not_lt_zero _)
          | succ n_5919 ih_n_5919 =>
            intro z_5915 z_5916 z_5917 z_5918 H locs ls b_z_5916 hi0_n_5919 hi1_n_5919 hm_n_5919 hG hP hD hS hl
            have hG := hG.trans (HX7_unsureLine_0_eq _ _ _ _ _ _ _ _ _ _ _ _ _ _ _ _)
            refine lv_iload_n hx hb dX7_unsureLine_55 rfl (lv_at hl 0 rfl) ?_
            refine lv_aload_n hx hb dX7_unsureLine_56 rfl (lv_at hl 3 rfl) ?_
            refine va_get (D := (dC, dI)) (ci := 7) (v := .ref rM_fresh) (C := RX7) (T := TX7) (N := 48) hx hb hts inX7 hown hK hP 0 rfl rfl 16 (by decide) (hts _ wd_156) (fun _ h9 => h9) rfl dX7_unsureLine_57 ?_
            refine lv_iconst (v := 3) hx hb dX7_unsureLine_60 (by decide) ?_
            refine va_iald hx hb hK hP 3 2 rfl rfl (by unfold vp_in; decide) dX7_unsureLine_61 ?_
            refine lv_topi (fun x_5920 ex_5920 => ?_)
            have hG := hG.trans (lt_eq ex_5920)
            have cx_5920 : (fM_fresh 3).toInt = x_5920.toInt := congrArg Int32.toInt (show fM_fresh 3 = x_5920 from ex_5920.symm)
            refine lv_icmp_ge (tgt := 102) hx hb dX7_unsureLine_62 (by decide) (fun c_5921 => ?_) (fun c_5921 => ?_)
            · skip
              have hG := hG.trans (if_pos c_5921)
              have gc_5921 := ti_le c_5921 rfl rfl
              refine lv_aload_n hx hb dX7_unsureLine_102 rfl (lv_at hl 3 rfl) ?_
              have hMs := ml_of hD [true, true, true, false, false] (wc := [(oc7 oM iM_thrown rM_tape iM_taped iM_size iM_at iM_end iM_token iM_whole iM_nameSize z_5917 z_5918 iM_trouble rM_letters z_5916 iM_hasCourt rM_r rM_fresh rM_told rM_read rM_st rM_undone rM_kept iM_undos iM_images rM_fresher iM_fresherSize iM_scale iM_night rM_heardRow rM_cutRow iM_breaths iM_cutMany iM_allBreaths rM_trial rM_words iM_fewestBreaths iM_orderMany iM_orderSum iM_leastOrder rM_often iM_setMany iM_someOf iM_allOf iM_allWeight iM_enoughWeight iM_worthSum iM_firstRest iM_leastDrawn), (arI rM_tape kM_tape 900 fM_tape), (arI rM_letters kM_letters 8 fM_letters)]) rfl
              have hFc := va_freeM hD hS hA _ hMs
              refine va_callv (va_runV (As := []) (rest := []) ⟨hx, hb, hml, hown, hts⟩ (tX7_pass l dC dI _ oM iM_thrown rM_tape fM_tape kM_tape iM_taped iM_size iM_at iM_end iM_token iM_whole iM_nameSize z_5917 z_5918 iM_trouble rM_letters fM_letters kM_letters z_5916 iM_hasCourt rM_r rM_fresh rM_told rM_read rM_st rM_undone rM_kept iM_undos iM_images rM_fresher iM_fresherSize iM_scale iM_night rM_heardRow rM_cutRow iM_breaths iM_cutMany iM_allBreaths rM_trial rM_words iM_fewestBreaths iM_orderMany iM_orderSum iM_leastOrder rM_often iM_setMany iM_someOf iM_allOf iM_allWeight iM_enoughWeight iM_worthSum iM_firstRest iM_leastDrawn b_iM_taped b_iM_size b_iM_end b_iM_nameSize b_z_5916 b_iM_hasCourt b_iM_undos b_iM_images b_iM_scale b_iM_breaths b_iM_cutMany r_T) (cwV 0 hts (wd_V wd_454 wd_455 wd_456 wd_5 (wd_c wd_457)) rfl rfl rfl dv_yX7_pass_0 ⟨Nat.le_of_ble_eq_true rfl, Nat.le_of_ble_eq_true rfl⟩) ⟨Pw.fb, recvX7 hK hP (q0 := 0) rfl, fun U hU hW => Pw.to (hP.ms _ hMs) (hD.ms _ hMs) (hK.ms [true, true, false, false] rfl) hE hS hFc hU hW⟩ rfl rfl hl.1 rfl (lv_room (Nat.le_of_ble_eq_true rfl)) dX7_unsureLine_103 ⟨Nat.le_of_ble_eq_true rfl, Nat.le_of_ble_eq_true rfl⟩) hS (fun q _ h => hFc q h) hFc (fun u t H locs ht hvm hw hB hz1 hk1 hS => ?_)
              refine ex_6_6 hB (fun x_5922 x_5923 x_5924 x_5925 x_5926 f_5927 b_x_5923 b_x_5926 e_x_5922_0 e_x_5922_1 e_x_5922_2 e_x_5922_3 hB => ?_)
              obtain ⟨hP, hD⟩ := Bw.goN (ws' := [(oc7 oM iM_thrown rM_tape iM_taped iM_size x_5922 x_5923 x_5924 x_5925 x_5926 z_5917 z_5918 iM_trouble rM_letters z_5916 iM_hasCourt rM_r rM_fresh rM_told rM_read rM_st rM_undone rM_kept iM_undos iM_images rM_fresher iM_fresherSize iM_scale iM_night rM_heardRow rM_cutRow iM_breaths iM_cutMany iM_allBreaths rM_trial rM_words iM_fewestBreaths iM_orderMany iM_orderSum iM_leastOrder rM_often iM_setMany iM_someOf iM_allOf iM_allWeight iM_enoughWeight iM_worthSum iM_firstRest iM_leastDrawn), (arI rM_tape kM_tape 900 fM_tape), (arI rM_letters kM_letters 8 f_5927), (arI rM_fresh kM_fresh 287 fM_fresh), (arI rM_read kM_read 90 fM_read)]) hB rfl ht hP hD _ hMs hk1 hFc rfl
              clear hz1 hk1 hvm ht hB hMs
              have hG := hG.trans (un6_eq e_x_5922_3)
              clear r_T
              refine lv_aload_n hx hb dX7_unsureLine_106 rfl (lv_at hl 3 rfl) ?_
              refine lv_iconst (v := 0) hx hb dX7_unsureLine_107 (by decide) ?_
              refine lv_bipush (v := 99) hx hb dX7_unsureLine_108 (by decide) ?_
              have hMs := ml_of hD [true, true, true, false, false] (wc := [(oc7 oM iM_thrown rM_tape iM_taped iM_size x_5922 x_5923 x_5924 x_5925 x_5926 z_5917 z_5918 iM_trouble rM_letters z_5916 iM_hasCourt rM_r rM_fresh rM_told rM_read rM_st rM_undone rM_kept iM_undos iM_images rM_fresher iM_fresherSize iM_scale iM_night rM_heardRow rM_cutRow iM_breaths iM_cutMany iM_allBreaths rM_trial rM_words iM_fewestBreaths iM_orderMany iM_orderSum iM_leastOrder rM_often iM_setMany iM_someOf iM_allOf iM_allWeight iM_enoughWeight iM_worthSum iM_firstRest iM_leastDrawn), (arI rM_tape kM_tape 900 fM_tape), (arI rM_letters kM_letters 8 f_5927)]) rfl
              have hFc := va_freeM hD hS hA _ hMs
              refine va_calli (va_runV (As := [.int 0, .int 99]) (rest := []) ⟨hx, hb, hml, hown, hts⟩ (tX7_number l dC dI _ oM iM_thrown rM_tape fM_tape kM_tape iM_taped iM_size x_5922 x_5923 x_5924 x_5925 x_5926 z_5917 z_5918 iM_trouble rM_letters f_5927 kM_letters z_5916 iM_hasCourt rM_r rM_fresh rM_told rM_read rM_st rM_undone rM_kept iM_undos iM_images rM_fresher iM_fresherSize iM_scale iM_night rM_heardRow rM_cutRow iM_breaths iM_cutMany iM_allBreaths rM_trial rM_words iM_fewestBreaths iM_orderMany iM_orderSum iM_leastOrder rM_often iM_setMany iM_someOf iM_allOf iM_allWeight iM_enoughWeight iM_worthSum iM_firstRest iM_leastDrawn 0 99 b_iM_taped b_iM_size b_x_5923 b_x_5926 b_z_5916 b_iM_hasCourt b_iM_undos b_iM_images b_iM_scale b_iM_breaths b_iM_cutMany e_x_5922_1 (om_b0b40937 kc_0 kc_99)) (cwV 2 hts (wd_V wd_446 wd_447 wd_448 wd_5 (wd_c wd_449)) rfl rfl rfl dv_yX7_number_2 ⟨Nat.le_of_ble_eq_true rfl, Nat.le_of_ble_eq_true rfl⟩) ⟨Pw.fb, recvX7 hK hP (q0 := 0) rfl, fun U hU hW => Pw.to (hP.ms _ hMs) (hD.ms _ hMs) (hK.ms [true, true, false, false] rfl) hE hS hFc hU hW⟩ rfl rfl hl.1 rfl (lv_room (Nat.le_of_ble_eq_true rfl)) dX7_unsureLine_110 ⟨Nat.le_of_ble_eq_true rfl, Nat.le_of_ble_eq_true rfl⟩) hS (fun q _ h => hFc q h) hFc (fun r u t H locs ht hvm hw hB hz1 hk1 hS => ?_)
              have hru9 := hw.2
              have hw := hw.1
              refine ex_9_8 hB (fun x_5928 x_5929 x_5930 x_5931 x_5932 x_5933 x_5934 x_5935 f_5936 b_x_5929 b_x_5932 b_x_5935 e_x_5928_0 e_x_5928_1 e_x_5928_2 e_x_5928_3 e_x_5928_4 hB => ?_)
              obtain ⟨hP, hD⟩ := Bw.goN (ws' := [(oc7 oM iM_thrown rM_tape iM_taped iM_size x_5928 x_5929 x_5930 x_5931 x_5932 x_5933 x_5934 iM_trouble rM_letters x_5935 iM_hasCourt rM_r rM_fresh rM_told rM_read rM_st rM_undone rM_kept iM_undos iM_images rM_fresher iM_fresherSize iM_scale iM_night rM_heardRow rM_cutRow iM_breaths iM_cutMany iM_allBreaths rM_trial rM_words iM_fewestBreaths iM_orderMany iM_orderSum iM_leastOrder rM_often iM_setMany iM_someOf iM_allOf iM_allWeight iM_enoughWeight iM_worthSum iM_firstRest iM_leastDrawn), (arI rM_tape kM_tape 900 fM_tape), (arI rM_letters kM_letters 8 f_5936), (arI rM_fresh kM_fresh 287 fM_fresh), (arI rM_read kM_read 90 fM_read)]) hB rfl ht hP hD _ hMs hk1 hFc rfl
              clear hz1 hk1 hvm ht hB hMs
              rw [← hru9] at e_x_5928_4
              obtain ⟨x_5937, rfl⟩ : ∃ z, z = r := ⟨_, rfl⟩
              have hG := hG.trans (un10_eq e_x_5928_4)
              have lx_5937 := hw.2
              have kl_0 := kc_0
              have kl_99 := kc_99
              clear e_x_5922_1
              clear e_x_5922_2
              refine lv_istore_n (lv' := [(3, .int x_5937), (2, .int x_5882), (1, .int x_5878), (0, .ref oM)]) hx hb dX7_unsureLine_113 rfl hl (by decide) rfl (fun ls hl => ?_)
              refine lv_aload_n hx hb dX7_unsureLine_114 rfl (lv_at hl 3 rfl) ?_
              refine va_get (D := (dC, dI)) (ci := 7) (v := .int x_5935) (C := RX7) (T := TX7) (N := 48) hx hb hts inX7 hown hK hP 0 rfl rfl 13 (by decide) (hts _ wd_380) (fun _ h9 => h9) rfl dX7_unsureLine_115 ?_
              refine lv_if_eq (tgt := 122) hx hb dX7_unsureLine_118 (by decide) (fun c_5938 => ?_) (fun c_5938 => ?_)
              · skip
                have hG := hG.trans (if_pos c_5938)
                have gc_5938 := ti_eq c_5938 rfl kc_0
                refine lv_aload_n hx hb dX7_unsureLine_122 rfl (lv_at hl 3 rfl) ?_
                refine va_get (D := (dC, dI)) (ci := 7) (v := .ref rM_fresh) (C := RX7) (T := TX7) (N := 48) hx hb hts inX7 hown hK hP 0 rfl rfl 16 (by decide) (hts _ wd_156) (fun _ h9 => h9) rfl dX7_unsureLine_123 ?_
                refine lv_iload_n hx hb dX7_unsureLine_126 rfl (lv_at hl 2 rfl) ?_
                refine lv_iload_n hx hb dX7_unsureLine_127 rfl (lv_at hl 1 rfl) ?_
                refine va_iast hx hb hK hP hD hS 3 2 rfl rfl (ti_in vx_5878 (om_e01513d4 pl_fM_fresh.2.2.2.1.1 cx_5876) (om_b23ddd3e pl_fM_fresh.2.2.2.1.2 cx_5876)) dX7_unsureLine_128 (fun H locs hP hD hS => ?_)
                obtain ⟨f_5939, ef_5939⟩ : ∃ g : Nat → Int32, g = upd fM_fresh x_5878.toNatClampNeg x_5882 := ⟨_, rfl⟩
                rw [← ef_5939] at hP hD
                have hG := hG.trans (lt_eq ef_5939)
                obtain ⟨hP, hD⟩ := wl2 (ws' := [(oc7 oM iM_thrown rM_tape iM_taped iM_size x_5928 x_5929 x_5930 x_5931 x_5932 x_5933 x_5934 iM_trouble rM_letters x_5935 iM_hasCourt rM_r rM_fresh rM_told rM_read rM_st rM_undone rM_kept iM_undos iM_images rM_fresher iM_fresherSize iM_scale iM_night rM_heardRow rM_cutRow iM_breaths iM_cutMany iM_allBreaths rM_trial rM_words iM_fewestBreaths iM_orderMany iM_orderSum iM_leastOrder rM_often iM_setMany iM_someOf iM_allOf iM_allWeight iM_enoughWeight iM_worthSum iM_firstRest iM_leastDrawn), (arI rM_tape kM_tape 900 fM_tape), (arI rM_letters kM_letters 8 f_5936), (arI rM_fresh kM_fresh 287 f_5939), (arI rM_read kM_read 90 fM_read)]) hP hD rfl
                have pk_f_5939 : POk f_5939 fM_read := POk.put r_P ef_5939 (Or.inr (Or.inr (Or.inr (Or.inr (Or.inr (Or.inr ((by have q9 := ti_cl (x := x_5878) vx_5878 (om_e01513d4 pl_fM_fresh.2.2.2.1.1 cx_5876); omega))))))))
                have pl_f_5939 := pk_f_5939.lins
                have o3_f_5939 : (f_5939 3).toInt = (fM_fresh 3).toInt := put_at ef_5939 (Nat.ne_of_lt (om_a84bc89b (ti_cl (x := x_5878) vx_5878 (om_e01513d4 pl_fM_fresh.2.2.2.1.1 cx_5876)) pl_fM_fresh.2.2.2.1.1 cx_5876))
                refine lv_aload_n hx hb dX7_unsureLine_129 rfl (lv_at hl 3 rfl) ?_
                refine va_get (D := (dC, dI)) (ci := 7) (v := .ref rM_fresh) (C := RX7) (T := TX7) (N := 48) hx hb hts inX7 hown hK hP 0 rfl rfl 16 (by decide) (hts _ wd_156) (fun _ h9 => h9) rfl dX7_unsureLine_130 ?_
                refine lv_iload_n hx hb dX7_unsureLine_133 rfl (lv_at hl 2 rfl) ?_
                refine lv_iconst (v := 1) hx hb dX7_unsureLine_134 (by decide) ?_
                refine lv_iadd hx hb dX7_unsureLine_135 ?_
                refine lv_topi (fun x_5940 ex_5940 => ?_)
                have hG := hG.trans (lt_eq ex_5940)
                have vx_5940 : x_5940.toInt = 2 * x_5876.toInt + 118 := om_c314a240 (ti_add ex_5940 vx_5878 kc_1 (om_8d6fa258 pl_fM_fresh.2.2.2.1.1 cx_5876) (om_63106487 pl_fM_fresh.2.2.2.1.2 cx_5876))
                refine lv_iload_n hx hb dX7_unsureLine_136 rfl (lv_at hl 0 rfl) ?_
                refine va_iast hx hb hK hP hD hS 3 2 rfl rfl (ti_in vx_5940 (om_36428d7e pl_fM_fresh.2.2.2.1.1 cx_5876) (om_dd31f364 pl_fM_fresh.2.2.2.1.2 cx_5876)) dX7_unsureLine_137 (fun H locs hP hD hS => ?_)
                obtain ⟨f_5941, ef_5941⟩ : ∃ g : Nat → Int32, g = upd f_5939 x_5940.toNatClampNeg x_5937 := ⟨_, rfl⟩
                rw [← ef_5941] at hP hD
                have hG := hG.trans (lt_eq ef_5941)
                obtain ⟨hP, hD⟩ := wl2 (ws' := [(oc7 oM iM_thrown rM_tape iM_taped iM_size x_5928 x_5929 x_5930 x_5931 x_5932 x_5933 x_5934 iM_trouble rM_letters x_5935 iM_hasCourt rM_r rM_fresh rM_told rM_read rM_st rM_undone rM_kept iM_undos iM_images rM_fresher iM_fresherSize iM_scale iM_night rM_heardRow rM_cutRow iM_breaths iM_cutMany iM_allBreaths rM_trial rM_words iM_fewestBreaths iM_orderMany iM_orderSum iM_leastOrder rM_often iM_setMany iM_someOf iM_allOf iM_allWeight iM_enoughWeight iM_worthSum iM_firstRest iM_leastDrawn), (arI rM_tape kM_tape 900 fM_tape), (arI rM_letters kM_letters 8 f_5936), (arI rM_fresh kM_fresh 287 f_5941), (arI rM_read kM_read 90 fM_read)]) hP hD rfl
                have pk_f_5941 : POk f_5941 fM_read := POk.put pk_f_5939 ef_5941 (Or.inr (Or.inr (Or.inr (Or.inr (Or.inr (Or.inr ((by have q9 := ti_cl (x := x_5940) vx_5940 (om_36428d7e pl_fM_fresh.2.2.2.1.1 cx_5876); omega))))))))
                have pl_f_5941 := pk_f_5941.lins
                have o3_f_5941 : (f_5941 3).toInt = (f_5939 3).toInt := put_at ef_5941 (Nat.ne_of_lt (om_44c915d2 (ti_cl (x := x_5940) vx_5940 (om_36428d7e pl_fM_fresh.2.2.2.1.1 cx_5876)) pl_fM_fresh.2.2.2.1.1 cx_5876))
                refine lv_aload_n hx hb dX7_unsureLine_138 rfl (lv_at hl 3 rfl) ?_
                refine va_get (D := (dC, dI)) (ci := 7) (v := .ref rM_fresh) (C := RX7) (T := TX7) (N := 48) hx hb hts inX7 hown hK hP 0 rfl rfl 16 (by decide) (hts _ wd_156) (fun _ h9 => h9) rfl dX7_unsureLine_139 ?_
                refine lv_iconst (v := 3) hx hb dX7_unsureLine_142 (by decide) ?_
                refine lv_dup2_11 hx hb dX7_unsureLine_143 rfl rfl ?_
                refine va_iald hx hb hK hP 3 2 rfl rfl (by unfold vp_in; decide) dX7_unsureLine_144 ?_
                refine lv_topi (fun x_5942 ex_5942 => ?_)
                have hG := hG.trans (lt_eq ex_5942)
                have cx_5942 : (f_5941 3).toInt = x_5942.toInt := congrArg Int32.toInt (show f_5941 3 = x_5942 from ex_5942.symm)
                refine lv_iconst (v := 1) hx hb dX7_unsureLine_145 (by decide) ?_
                refine lv_iadd hx hb dX7_unsureLine_146 ?_
                refine lv_topi (fun x_5943 ex_5943 => ?_)
                have hG := hG.trans (lt_eq ex_5943)
                have vx_5943 : x_5943.toInt = x_5942.toInt + 1 := ti_add ex_5943 rfl kc_1 (om_c68f1f10 pl_f_5941.2.2.2.1.1 cx_5942) (om_5922c878 pl_f_5941.2.2.2.1.2 cx_5942)
                refine va_iast hx hb hK hP hD hS 3 2 rfl rfl (by unfold vp_in; decide) dX7_unsureLine_147 (fun H locs hP hD hS => ?_)
                obtain ⟨f_5944, ef_5944⟩ : ∃ g : Nat → Int32, g = upd f_5941 (3 : Int32).toNatClampNeg x_5943 := ⟨_, rfl⟩
                rw [← ef_5944] at hP hD
                have hG := hG.trans (lt_eq ef_5944)
                obtain ⟨hP, hD⟩ := wl2 (ws' := [(oc7 oM iM_thrown rM_tape iM_taped iM_size x_5928 x_5929 x_5930 x_5931 x_5932 x_5933 x_5934 iM_trouble rM_letters x_5935 iM_hasCourt rM_r rM_fresh rM_told rM_read rM_st rM_undone rM_kept iM_undos iM_images rM_fresher iM_fresherSize iM_scale iM_night rM_heardRow rM_cutRow iM_breaths iM_cutMany iM_allBreaths rM_trial rM_words iM_fewestBreaths iM_orderMany iM_orderSum iM_leastOrder rM_often iM_setMany iM_someOf iM_allOf iM_allWeight iM_enoughWeight iM_worthSum iM_firstRest iM_leastDrawn), (arI rM_tape kM_tape 900 fM_tape), (arI rM_letters kM_letters 8 f_5936), (arI rM_fresh kM_fresh 287 f_5944), (arI rM_read kM_read 90 fM_read)]) hP hD rfl
                have pk_f_5944 : POk f_5944 fM_read := POk.put pk_f_5941 ef_5944 (Or.inr (Or.inr (Or.inr (Or.inr (Or.inl (by have q9 : ((3 : Int32).toNatClampNeg : Nat) = 3 := rfl; omega))))))
                have pl_f_5944 := pk_f_5944.lins
                exact wq_v hx hb hr 0 trivial (fun t ht hW => ⟨x_5928, x_5929, x_5930, x_5931, x_5932, x_5933, x_5934, x_5935, f_5936, f_5944, b_x_5929, b_x_5932, b_x_5935, (om_9348f5ae e_x_5922_0 e_x_5928_0), e_x_5928_1, (om_1fc3dec6 gc_5874 b_x_5935.1), (fun h9 => (om_7ed234da e_x_5922_0 (e_x_5928_3 ⟨(om_02e9bb08 gc_5938), h9.2⟩))), pk_f_5944, hG, Bw.to hP hD hK ht hW⟩) hS dX7_unsureLine_148 hlocks
              · skip
                have hG := hG.trans (if_neg c_5938)
                have gc_5938 := ti_ne c_5938 rfl kc_0
                replace gc_5938 : (-1) * x_5935.toInt + 1 ≤ 0 := om_e3003f79 gc_5938 b_x_5935.1
                exact wq_v hx hb hr 0 trivial (fun t ht hW => ⟨x_5928, x_5929, x_5930, x_5931, x_5932, x_5933, x_5934, x_5935, f_5936, fM_fresh, b_x_5929, b_x_5932, b_x_5935, (om_9348f5ae e_x_5922_0 e_x_5928_0), e_x_5928_1, (om_1fc3dec6 gc_5874 b_x_5935.1), (fun h9 => False.elim (om_a5fe015d gc_5938 h9.1)), r_P, hG, Bw.to hP hD hK ht hW⟩) hS dX7_unsureLine_121 hlocks
            · skip
              have hG := hG.trans (if_neg c_5921)
              have gc_5921 := ti_nle c_5921 rfl rfl
              refine lv_aload_n hx hb dX7_unsureLine_65 rfl (lv_at hl 3 rfl) ?_
              refine va_get (D := (dC, dI)) (ci := 7) (v := .int z_5916) (C := RX7) (T := TX7) (N := 48) hx hb hts inX7 hown hK hP 0 rfl rfl 13 (by decide) (hts _ wd_380) (fun _ h9 => h9) rfl dX7_unsureLine_66 ?_
              refine lv_if_ne (tgt := 96) hx hb dX7_unsureLine_69 (by decide) (fun c_5945 => ?_) (fun c_5945 => ?_)
              · skip
                have hG := hG.trans (if_neg c_5945)
                have gc_5945 := ti_ne c_5945 rfl kc_0
                replace gc_5945 : (-1) * z_5916.toInt + 1 ≤ 0 := om_e3003f79 gc_5945 b_z_5916.1
                obtain ⟨x_5946, ex_5946⟩ : ∃ z : Int32, z = z_5915 + Int32.ofInt 1 := ⟨_, rfl⟩
                have hG := hG.trans (lt_eq ex_5946)
                have vx_5946 : x_5946.toInt = z_5915.toInt + 1 := ti_add (y := 1) ex_5946 rfl kc_1 (om_4e4fce7e hi0_n_5919.1) (om_bae2951a hi0_n_5919.2)
                refine lv_iinc (v := x_5946) (lv' := [(3, .int x_5946), (2, .int x_5882), (1, .int x_5878), (0, .ref oM)]) hx hb dX7_unsureLine_96 hl (k := 0) rfl ex_5946.symm (by decide) rfl (fun ls hl => ?_)
                refine lv_goto (tgt := 55) hx hb dX7_unsureLine_99 (by decide) ?_
                exact ih_n_5919 x_5946 z_5916 z_5917 z_5918 _ _ _ b_z_5916 ⟨(om_83b90de5 hi0_n_5919.1 vx_5946), (om_8267bec5 pl_fM_fresh.2.2.2.1.2 cx_5920 gc_5921 vx_5946)⟩ (om_1fc3dec6 gc_5883 b_z_5916.1) (ms_lt hm_n_5919 (om_ed22490e vx_5946) (om_e4be4046 pl_fM_fresh.2.2.2.1.2 cx_5920 gc_5921)) hG hP hD hS (lv_sub hl [0, 1, 2, 3] rfl)
              · skip
                have hG := hG.trans (if_pos c_5945)
                have gc_5945 := ti_eq c_5945 rfl kc_0
                refine lv_aload_n hx hb dX7_unsureLine_72 rfl (lv_at hl 3 rfl) ?_
                refine va_get (D := (dC, dI)) (ci := 7) (v := .ref rM_fresh) (C := RX7) (T := TX7) (N := 48) hx hb hts inX7 hown hK hP 0 rfl rfl 16 (by decide) (hts _ wd_156) (fun _ h9 => h9) rfl dX7_unsureLine_73 ?_
                refine lv_bipush (v := 117) hx hb dX7_unsureLine_76 (by decide) ?_
                refine lv_iconst (v := 2) hx hb dX7_unsureLine_78 (by decide) ?_
                refine lv_iload_n hx hb dX7_unsureLine_79 rfl (lv_at hl 0 rfl) ?_
                refine lv_imul hx hb dX7_unsureLine_80 ?_
                refine lv_topi (fun x_5947 ex_5947 => ?_)
                have hG := hG.trans (lt_eq ex_5947)
                have vx_5947 : x_5947.toInt = 2 * z_5915.toInt := ti_mul ex_5947 kc_2 rfl (om_c5b3d97d hi0_n_5919.1) (om_e31e6d0e hi0_n_5919.2)
                refine lv_iadd hx hb dX7_unsureLine_81 ?_
                refine lv_topi (fun x_5948 ex_5948 => ?_)
                have hG := hG.trans (lt_eq ex_5948)
                have vx_5948 : x_5948.toInt = 2 * z_5915.toInt + 117 := om_67044d60 (ti_add ex_5948 kc_117 vx_5947 (om_6bb57472 hi0_n_5919.1) (om_12bf95c9 hi0_n_5919.2))
                refine va_iald hx hb hK hP 3 2 rfl rfl (ti_in vx_5948 (om_c8571833 hi0_n_5919.1) (om_f21b86dc hi0_n_5919.2)) dX7_unsureLine_82 ?_
                refine lv_topi (fun x_5949 ex_5949 => ?_)
                have hG := hG.trans (lt_eq ex_5949)
                have kx_5949 : (fM_fresh x_5948.toNatClampNeg).toInt = x_5949.toInt := by rw [ex_5949]
                have cx_5949 : (fM_fresh (117 + 2 * z_5915.toNatClampNeg)).toInt = x_5949.toInt := by rw [show 117 + 2 * z_5915.toNatClampNeg = x_5948.toNatClampNeg from (om_dbb1b72e (ti_cl (x := z_5915) rfl hi0_n_5919.1) (ti_cl (x := x_5948) vx_5948 (om_c8571833 hi0_n_5919.1)))]; exact kx_5949
                refine lv_iload_n hx hb dX7_unsureLine_83 rfl (lv_at hl 1 rfl) ?_
                refine lv_icmp_ne (tgt := 96) hx hb dX7_unsureLine_84 (by decide) (fun c_5950 => ?_) (fun c_5950 => ?_)
                · skip
                  have hG := hG.trans (if_neg c_5950)
                  have gc_5950 := ti_ne c_5950 rfl rfl
                  clear gc_5950
                  obtain ⟨x_5951, ex_5951⟩ : ∃ z : Int32, z = z_5915 + Int32.ofInt 1 := ⟨_, rfl⟩
                  have hG := hG.trans (lt_eq ex_5951)
                  have vx_5951 : x_5951.toInt = z_5915.toInt + 1 := ti_add (y := 1) ex_5951 rfl kc_1 (om_4e4fce7e hi0_n_5919.1) (om_bae2951a hi0_n_5919.2)
                  refine lv_iinc (v := x_5951) (lv' := [(3, .int x_5951), (2, .int x_5882), (1, .int x_5878), (0, .ref oM)]) hx hb dX7_unsureLine_96 hl (k := 0) rfl ex_5951.symm (by decide) rfl (fun ls hl => ?_)
                  refine lv_goto (tgt := 55) hx hb dX7_unsureLine_99 (by decide) ?_
                  exact ih_n_5919 x_5951 z_5916 z_5917 z_5918 _ _ _ b_z_5916 ⟨(om_83b90de5 hi0_n_5919.1 vx_5951), (om_8267bec5 pl_fM_fresh.2.2.2.1.2 cx_5920 gc_5921 vx_5951)⟩ (om_1fc3dec6 gc_5883 b_z_5916.1) (ms_lt hm_n_5919 (om_ed22490e vx_5951) (om_e4be4046 pl_fM_fresh.2.2.2.1.2 cx_5920 gc_5921)) hG hP hD hS (lv_sub hl [0, 1, 2, 3] rfl)
                · skip
                  have hG := hG.trans (if_pos c_5950)
                  have gc_5950 := ti_eq c_5950 rfl rfl
                  refine lv_aload_n hx hb dX7_unsureLine_87 rfl (lv_at hl 3 rfl) ?_
                  refine lv_iconst (v := 3) hx hb dX7_unsureLine_88 (by decide) ?_
                  refine lv_aload_n hx hb dX7_unsureLine_89 rfl (lv_at hl 3 rfl) ?_
                  refine va_get (D := (dC, dI)) (ci := 7) (v := .int iM_at) (C := RX7) (T := TX7) (N := 48) hx hb hts inX7 hown hK hP 0 rfl rfl 4 (by decide) (hts _ wd_384) (fun _ h9 => h9) rfl dX7_unsureLine_90 ?_
                  have hMs := ml_of hD [true, false, false, false, false] (wc := [(oc7 oM iM_thrown rM_tape iM_taped iM_size iM_at iM_end iM_token iM_whole iM_nameSize z_5917 z_5918 iM_trouble rM_letters z_5916 iM_hasCourt rM_r rM_fresh rM_told rM_read rM_st rM_undone rM_kept iM_undos iM_images rM_fresher iM_fresherSize iM_scale iM_night rM_heardRow rM_cutRow iM_breaths iM_cutMany iM_allBreaths rM_trial rM_words iM_fewestBreaths iM_orderMany iM_orderSum iM_leastOrder rM_often iM_setMany iM_someOf iM_allOf iM_allWeight iM_enoughWeight iM_worthSum iM_firstRest iM_leastDrawn)]) rfl
                  have hFc := va_freeM hD hS hA _ hMs
                  refine va_callv (va_runV (As := [.int 3, .int iM_at]) (rest := []) ⟨hx, hb, hml, hown, hts⟩ (tX7_wrong l dC dI _ oM iM_thrown rM_tape iM_taped iM_size iM_at iM_end iM_token iM_whole iM_nameSize z_5917 z_5918 iM_trouble rM_letters z_5916 iM_hasCourt rM_r rM_fresh rM_told rM_read rM_st rM_undone rM_kept iM_undos iM_images rM_fresher iM_fresherSize iM_scale iM_night rM_heardRow rM_cutRow iM_breaths iM_cutMany iM_allBreaths rM_trial rM_words iM_fewestBreaths iM_orderMany iM_orderSum iM_leastOrder rM_often iM_setMany iM_someOf iM_allOf iM_allWeight iM_enoughWeight iM_worthSum iM_firstRest iM_leastDrawn 3 iM_at b_iM_taped b_iM_size b_iM_end b_iM_nameSize b_z_5916 b_iM_hasCourt b_iM_undos b_iM_images b_iM_scale b_iM_breaths b_iM_cutMany r_T) (cwV 2 hts (wd_V wd_430 wd_431 wd_432 wd_5 (wd_c wd_433)) rfl rfl rfl dv_yX7_wrong_2 ⟨Nat.le_of_ble_eq_true rfl, Nat.le_of_ble_eq_true rfl⟩) ⟨Pw.fb, recvX7 hK hP (q0 := 0) rfl, fun U hU hW => Pw.to (hP.ms _ hMs) (hD.ms _ hMs) (hK.ms [false, false, false, false] rfl) hE hS hFc hU hW⟩ rfl rfl hl.1 rfl (lv_room (Nat.le_of_ble_eq_true rfl)) dX7_unsureLine_93 ⟨Nat.le_of_ble_eq_true rfl, Nat.le_of_ble_eq_true rfl⟩) hS (fun q _ h => hFc q h) hFc (fun u t H locs ht hvm hw hB hz1 hk1 hS => ?_)
                  refine ex_3_3 hB (fun x_5952 x_5953 x_5954 b_x_5954 e_x_5952_0 e_x_5952_1 hB => ?_)
                  obtain ⟨hP, hD⟩ := Bw.goN (ws' := [(oc7 oM iM_thrown rM_tape iM_taped iM_size iM_at iM_end iM_token iM_whole iM_nameSize x_5952 x_5953 iM_trouble rM_letters x_5954 iM_hasCourt rM_r rM_fresh rM_told rM_read rM_st rM_undone rM_kept iM_undos iM_images rM_fresher iM_fresherSize iM_scale iM_night rM_heardRow rM_cutRow iM_breaths iM_cutMany iM_allBreaths rM_trial rM_words iM_fewestBreaths iM_orderMany iM_orderSum iM_leastOrder rM_often iM_setMany iM_someOf iM_allOf iM_allWeight iM_enoughWeight iM_worthSum iM_firstRest iM_leastDrawn), (arI rM_tape kM_tape 900 fM_tape), (arI rM_letters kM_letters 8 fM_letters), (arI rM_fresh kM_fresh 287 fM_fresh), (arI rM_read kM_read 90 fM_read)]) hB rfl ht hP hD _ hMs hk1 hFc rfl
                  clear hz1 hk1 hvm ht hB hMs
                  have hG := hG.trans (un3_eq e_x_5952_1)
                  obtain ⟨x_5955, ex_5955⟩ : ∃ z : Int32, z = z_5915 + Int32.ofInt 1 := ⟨_, rfl⟩
                  have hG := hG.trans (lt_eq ex_5955)
                  have vx_5955 : x_5955.toInt = z_5915.toInt + 1 := ti_add (y := 1) ex_5955 rfl kc_1 (om_4e4fce7e hi0_n_5919.1) (om_bae2951a hi0_n_5919.2)
                  refine lv_iinc (v := x_5955) (lv' := [(3, .int x_5955), (2, .int x_5882), (1, .int x_5878), (0, .ref oM)]) hx hb dX7_unsureLine_96 hl (k := 0) rfl ex_5955.symm (by decide) rfl (fun ls hl => ?_)
                  refine lv_goto (tgt := 55) hx hb dX7_unsureLine_99 (by decide) ?_
                  exact ih_n_5919 x_5955 x_5954 x_5952 x_5953 _ _ _ b_x_5954 ⟨(om_83b90de5 hi0_n_5919.1 vx_5955), (om_8267bec5 pl_fM_fresh.2.2.2.1.2 cx_5920 gc_5921 vx_5955)⟩ (om_1fc3dec6 gc_5883 b_x_5954.1) (ms_lt hm_n_5919 (om_ed22490e vx_5955) (om_e4be4046 pl_fM_fresh.2.2.2.1.2 cx_5920 gc_5921)) hG hP hD hS (lv_sub hl [0, 1, 2, 3] rfl)
        exact key_n_5919 (((4 - (0 : Int32).toInt).toNat) + 1) 0 x_5881 x_5879 x_5880 _ _ _ b_x_5881 ⟨(om_b1de7dbe kc_0), (om_bebe011a kc_0)⟩ om_1cb5f934 (Nat.lt_add_one _) hG hP hD hS hl
      · skip
        have hG := hG.trans (if_neg c_5914)
        have gc_5914 := ti_ne c_5914 rfl kc_0
        clear gc_5914
        refine lv_aload_n hx hb dX7_unsureLine_44 rfl (lv_at hl 2 rfl) ?_
        refine lv_iconst (v := 2) hx hb dX7_unsureLine_45 (by decide) ?_
        refine lv_aload_n hx hb dX7_unsureLine_46 rfl (lv_at hl 2 rfl) ?_
        refine va_get (D := (dC, dI)) (ci := 7) (v := .int iM_at) (C := RX7) (T := TX7) (N := 48) hx hb hts inX7 hown hK hP 0 rfl rfl 4 (by decide) (hts _ wd_384) (fun _ h9 => h9) rfl dX7_unsureLine_47 ?_
        have hMs := ml_of hD [true, false, false, false, false] (wc := [(oc7 oM iM_thrown rM_tape iM_taped iM_size iM_at iM_end iM_token iM_whole iM_nameSize x_5879 x_5880 iM_trouble rM_letters x_5881 iM_hasCourt rM_r rM_fresh rM_told rM_read rM_st rM_undone rM_kept iM_undos iM_images rM_fresher iM_fresherSize iM_scale iM_night rM_heardRow rM_cutRow iM_breaths iM_cutMany iM_allBreaths rM_trial rM_words iM_fewestBreaths iM_orderMany iM_orderSum iM_leastOrder rM_often iM_setMany iM_someOf iM_allOf iM_allWeight iM_enoughWeight iM_worthSum iM_firstRest iM_leastDrawn)]) rfl
        have hFc := va_freeM hD hS hA _ hMs
        refine va_callv (va_runV (As := [.int 2, .int iM_at]) (rest := []) ⟨hx, hb, hml, hown, hts⟩ (tX7_wrong l dC dI _ oM iM_thrown rM_tape iM_taped iM_size iM_at iM_end iM_token iM_whole iM_nameSize x_5879 x_5880 iM_trouble rM_letters x_5881 iM_hasCourt rM_r rM_fresh rM_told rM_read rM_st rM_undone rM_kept iM_undos iM_images rM_fresher iM_fresherSize iM_scale iM_night rM_heardRow rM_cutRow iM_breaths iM_cutMany iM_allBreaths rM_trial rM_words iM_fewestBreaths iM_orderMany iM_orderSum iM_leastOrder rM_often iM_setMany iM_someOf iM_allOf iM_allWeight iM_enoughWeight iM_worthSum iM_firstRest iM_leastDrawn 2 iM_at b_iM_taped b_iM_size b_iM_end b_iM_nameSize b_x_5881 b_iM_hasCourt b_iM_undos b_iM_images b_iM_scale b_iM_breaths b_iM_cutMany r_T) (cwV 2 hts (wd_V wd_430 wd_431 wd_432 wd_5 (wd_c wd_433)) rfl rfl rfl dv_yX7_wrong_2 ⟨Nat.le_of_ble_eq_true rfl, Nat.le_of_ble_eq_true rfl⟩) ⟨Pw.fb, recvX7 hK hP (q0 := 0) rfl, fun U hU hW => Pw.to (hP.ms _ hMs) (hD.ms _ hMs) (hK.ms [false, false, false, false] rfl) hE hS hFc hU hW⟩ rfl rfl hl.1 rfl (lv_room (Nat.le_of_ble_eq_true rfl)) dX7_unsureLine_50 ⟨Nat.le_of_ble_eq_true rfl, Nat.le_of_ble_eq_true rfl⟩) hS (fun q _ h => hFc q h) hFc (fun u t H locs ht hvm hw hB hz1 hk1 hS => ?_)
        refine ex_3_3 hB (fun x_5956 x_5957 x_5958 b_x_5958 e_x_5956_0 e_x_5956_1 hB => ?_)
        obtain ⟨hP, hD⟩ := Bw.goN (ws' := [(oc7 oM iM_thrown rM_tape iM_taped iM_size iM_at iM_end iM_token iM_whole iM_nameSize x_5956 x_5957 iM_trouble rM_letters x_5958 iM_hasCourt rM_r rM_fresh rM_told rM_read rM_st rM_undone rM_kept iM_undos iM_images rM_fresher iM_fresherSize iM_scale iM_night rM_heardRow rM_cutRow iM_breaths iM_cutMany iM_allBreaths rM_trial rM_words iM_fewestBreaths iM_orderMany iM_orderSum iM_leastOrder rM_often iM_setMany iM_someOf iM_allOf iM_allWeight iM_enoughWeight iM_worthSum iM_firstRest iM_leastDrawn), (arI rM_tape kM_tape 900 fM_tape), (arI rM_letters kM_letters 8 fM_letters), (arI rM_fresh kM_fresh 287 fM_fresh), (arI rM_read kM_read 90 fM_read)]) hB rfl ht hP hD _ hMs hk1 hFc rfl
        clear hz1 hk1 hvm ht hB hMs
        have hG := hG.trans (un3_eq e_x_5956_1)
        refine lv_iconst (v := 0) hx hb dX7_unsureLine_53 (by decide) ?_
        refine lv_istore_n (lv' := [(3, .int 0), (2, .int x_5882), (1, .int x_5878), (0, .ref oM)]) hx hb dX7_unsureLine_54 rfl hl (by decide) rfl (fun ls hl => ?_)
        have hl := lv_sub hl (l' := [(3, .int 0), (2, .int x_5882), (1, .int x_5878), (0, .ref oM)]) [0, 1, 2, 3] rfl
        have key_n_5963 : ∀ (n_5963 : Nat) (z_5959 : Int32) (z_5960 : Int32) (z_5961 : Int32) (z_5962 : Int32) (H : Heap) (locs : List Loc) (ls : Array Slot), (0 ≤ z_5960.toInt ∧ z_5960.toInt ≤ 1) → (0 ≤ z_5959.toInt ∧ z_5959.toInt ≤ 4) → (x_5958.toInt ≤ z_5960.toInt) → (4 - z_5959.toInt).toNat < n_5963 → (PX7_unsureLine fM_tape iM_size iM_at iM_end iM_token iM_whole iM_nameSize iM_fault iM_place fM_letters iM_failed fM_fresh = HX7_unsureLine_1 fM_tape iM_size iM_at iM_end iM_token iM_whole iM_nameSize fM_letters fM_fresh n_5963 z_5959 z_5960 z_5961 z_5962) → va_P (dC, dI) vwCl [(oc7 oM iM_thrown rM_tape iM_taped iM_size iM_at iM_end iM_token iM_whole iM_nameSize z_5961 z_5962 iM_trouble rM_letters z_5960 iM_hasCourt rM_r rM_fresh rM_told rM_read rM_st rM_undone rM_kept iM_undos iM_images rM_fresher iM_fresherSize iM_scale iM_night rM_heardRow rM_cutRow iM_breaths iM_cutMany iM_allBreaths rM_trial rM_words iM_fewestBreaths iM_orderMany iM_orderSum iM_leastOrder rM_often iM_setMany iM_someOf iM_allOf iM_allWeight iM_enoughWeight iM_worthSum iM_firstRest iM_leastDrawn), (arI rM_tape kM_tape 900 fM_tape), (arI rM_letters kM_letters 8 fM_letters), (arI rM_fresh kM_fresh 287 fM_fresh), (arI rM_read kM_read 90 fM_read)] H → va_D A [(oc7 oM iM_thrown rM_tape iM_taped iM_size iM_at iM_end iM_token iM_whole iM_nameSize z_5961 z_5962 iM_trouble rM_letters z_5960 iM_hasCourt rM_r rM_fresh rM_told rM_read rM_st rM_undone rM_kept iM_undos iM_images rM_fresher iM_fresherSize iM_scale iM_night rM_heardRow rM_cutRow iM_breaths iM_cutMany iM_allBreaths rM_trial rM_words iM_fewestBreaths iM_orderMany iM_orderSum iM_leastOrder rM_often iM_setMany iM_someOf iM_allOf iM_allWeight iM_enoughWeight iM_worthSum iM_firstRest iM_leastDrawn), (arI rM_tape kM_tape 900 fM_tape), (arI rM_letters kM_letters 8 fM_letters), (arI rM_fresh kM_fresh 287 fM_fresh), (arI rM_read kM_read 90 fM_read)] → va_S A s.heap H locs → lv_has ls 4 [(3, .int z_5959), (2, .int x_5882), (1, .int x_5878), (0, .ref oM)] → W p l e (headSpec (Cond.code yX7_unsureLine cX7_unsureLine 4 none :: wG) ({ frames := 7, cells := 0, slots := 0, locals := 175 })).room s m ([.ref oM] : List Value).toArray below meth c H locs 0 0 (MQ below (va_Qv (fun (_ : Nat) => True) (fun (_ : Nat) (t : State) => ∃ (niM_at : Int32) (niM_end : Int32) (niM_token : Int32) (niM_whole : Int32) (niM_nameSize : Int32) (niM_fault : Int32) (niM_place : Int32) (niM_failed : Int32) (nfM_letters : Nat → Int32) (nfM_fresh : Nat → Int32), (0 ≤ niM_end.toInt ∧ niM_end.toInt ≤ 900) ∧ (0 ≤ niM_nameSize.toInt ∧ niM_nameSize.toInt ≤ 900) ∧ (0 ≤ niM_failed.toInt ∧ niM_failed.toInt ≤ 1) ∧ (iM_end.toInt ≤ niM_end.toInt) ∧ (ImpP (niM_token.toInt = 2) (niM_nameSize.toInt ≤ 8)) ∧ (iM_failed.toInt ≤ niM_failed.toInt) ∧ (ImpP (niM_failed.toInt ≤ 0 ∧ niM_token.toInt = 59 ) (iM_end.toInt + 1 ≤ niM_end.toInt)) ∧ (POk nfM_fresh fM_read) ∧ (PX7_unsureLine fM_tape iM_size iM_at iM_end iM_token iM_whole iM_nameSize iM_fault iM_place fM_letters iM_failed fM_fresh = (niM_at, niM_end, niM_token, niM_whole, niM_nameSize, niM_fault, niM_place, niM_failed, nfM_letters, nfM_fresh)) ∧ Bw dC dI A [(oc7 oM iM_thrown rM_tape iM_taped iM_size niM_at niM_end niM_token niM_whole niM_nameSize niM_fault niM_place iM_trouble rM_letters niM_failed iM_hasCourt rM_r rM_fresh rM_told rM_read rM_st rM_undone rM_kept iM_undos iM_images rM_fresher iM_fresherSize iM_scale iM_night rM_heardRow rM_cutRow iM_breaths iM_cutMany iM_allBreaths rM_trial rM_words iM_fewestBreaths iM_orderMany iM_orderSum iM_leastOrder rM_often iM_setMany iM_someOf iM_allOf iM_allWeight iM_enoughWeight iM_worthSum iM_firstRest iM_leastDrawn), (arI rM_tape kM_tape 900 fM_tape), (arI rM_letters kM_letters 8 nfM_letters), (arI rM_fresh kM_fresh 287 nfM_fresh), (arI rM_read kM_read 90 fM_read)] [(kM_tape, .int), (kM_letters, .int), (kM_fresh, .int), (kM_read, .int)] t) A) ([.ref oM] : List Value).toArray s 0 0 A) (F0 m 55 ls []) := by
          intro n_5963
          induction n_5963 with
          | zero => intro z_5959 z_5960 z_5961 z_5962 H locs ls b_z_5960 hi0_n_5963 hi1_n_5963 hm; exact absurd hm (Nat.not_lt_zero _)
          | succ n_5963 ih_n_5963 =>
            intro z_5959 z_5960 z_5961 z_5962 H locs ls b_z_5960 hi0_n_5963 hi1_n_5963 hm_n_5963 hG hP hD hS hl
            have hG := hG.trans (HX7_unsureLine_1_eq _ _ _ _ _ _ _ _ _ _ _ _ _ _)
            refine lv_iload_n hx hb dX7_unsureLine_55 rfl (lv_at hl 0 rfl) ?_
            refine lv_aload_n hx hb dX7_unsureLine_56 rfl (lv_at hl 3 rfl) ?_
            refine va_get (D := (dC, dI)) (ci := 7) (v := .ref rM_fresh) (C := RX7) (T := TX7) (N := 48) hx hb hts inX7 hown hK hP 0 rfl rfl 16 (by decide) (hts _ wd_156) (fun _ h9 => h9) rfl dX7_unsureLine_57 ?_
            refine lv_iconst (v := 3) hx hb dX7_unsureLine_60 (by decide) ?_
            refine va_iald hx hb hK hP 3 2 rfl rfl (by unfold vp_in; decide) dX7_unsureLine_61 ?_
            refine lv_topi (fun x_5964 ex_5964 => ?_)
            have hG := hG.trans (lt_eq ex_5964)
            have cx_5964 : (fM_fresh 3).toInt = x_5964.toInt := congrArg Int32.toInt (show fM_fresh 3 = x_5964 from ex_5964.symm)
            refine lv_icmp_ge (tgt := 102) hx hb dX7_unsureLine_62 (by decide) (fun c_5965 => ?_) (fun c_5965 => ?_)
            · skip
              have hG := hG.trans (if_pos c_5965)
              have gc_5965 := ti_le c_5965 rfl rfl
              refine lv_aload_n hx hb dX7_unsureLine_102 rfl (lv_at hl 3 rfl) ?_
              have hMs := ml_of hD [true, true, true, false, false] (wc := [(oc7 oM iM_thrown rM_tape iM_taped iM_size iM_at iM_end iM_token iM_whole iM_nameSize z_5961 z_5962 iM_trouble rM_letters z_5960 iM_hasCourt rM_r rM_fresh rM_told rM_read rM_st rM_undone rM_kept iM_undos iM_images rM_fresher iM_fresherSize iM_scale iM_night rM_heardRow rM_cutRow iM_breaths iM_cutMany iM_allBreaths rM_trial rM_words iM_fewestBreaths iM_orderMany iM_orderSum iM_leastOrder rM_often iM_setMany iM_someOf iM_allOf iM_allWeight iM_enoughWeight iM_worthSum iM_firstRest iM_leastDrawn), (arI rM_tape kM_tape 900 fM_tape), (arI rM_letters kM_letters 8 fM_letters)]) rfl
              have hFc := va_freeM hD hS hA _ hMs
              refine va_callv (va_runV (As := []) (rest := []) ⟨hx, hb, hml, hown, hts⟩ (tX7_pass l dC dI _ oM iM_thrown rM_tape fM_tape kM_tape iM_taped iM_size iM_at iM_end iM_token iM_whole iM_nameSize z_5961 z_5962 iM_trouble rM_letters fM_letters kM_letters z_5960 iM_hasCourt rM_r rM_fresh rM_told rM_read rM_st rM_undone rM_kept iM_undos iM_images rM_fresher iM_fresherSize iM_scale iM_night rM_heardRow rM_cutRow iM_breaths iM_cutMany iM_allBreaths rM_trial rM_words iM_fewestBreaths iM_orderMany iM_orderSum iM_leastOrder rM_often iM_setMany iM_someOf iM_allOf iM_allWeight iM_enoughWeight iM_worthSum iM_firstRest iM_leastDrawn b_iM_taped b_iM_size b_iM_end b_iM_nameSize b_z_5960 b_iM_hasCourt b_iM_undos b_iM_images b_iM_scale b_iM_breaths b_iM_cutMany r_T) (cwV 0 hts (wd_V wd_454 wd_455 wd_456 wd_5 (wd_c wd_457)) rfl rfl rfl dv_yX7_pass_0 ⟨Nat.le_of_ble_eq_true rfl, Nat.le_of_ble_eq_true rfl⟩) ⟨Pw.fb, recvX7 hK hP (q0 := 0) rfl, fun U hU hW => Pw.to (hP.ms _ hMs) (hD.ms _ hMs) (hK.ms [true, true, false, false] rfl) hE hS hFc hU hW⟩ rfl rfl hl.1 rfl (lv_room (Nat.le_of_ble_eq_true rfl)) dX7_unsureLine_103 ⟨Nat.le_of_ble_eq_true rfl, Nat.le_of_ble_eq_true rfl⟩) hS (fun q _ h => hFc q h) hFc (fun u t H locs ht hvm hw hB hz1 hk1 hS => ?_)
              refine ex_6_6 hB (fun x_5966 x_5967 x_5968 x_5969 x_5970 f_5971 b_x_5967 b_x_5970 e_x_5966_0 e_x_5966_1 e_x_5966_2 e_x_5966_3 hB => ?_)
              obtain ⟨hP, hD⟩ := Bw.goN (ws' := [(oc7 oM iM_thrown rM_tape iM_taped iM_size x_5966 x_5967 x_5968 x_5969 x_5970 z_5961 z_5962 iM_trouble rM_letters z_5960 iM_hasCourt rM_r rM_fresh rM_told rM_read rM_st rM_undone rM_kept iM_undos iM_images rM_fresher iM_fresherSize iM_scale iM_night rM_heardRow rM_cutRow iM_breaths iM_cutMany iM_allBreaths rM_trial rM_words iM_fewestBreaths iM_orderMany iM_orderSum iM_leastOrder rM_often iM_setMany iM_someOf iM_allOf iM_allWeight iM_enoughWeight iM_worthSum iM_firstRest iM_leastDrawn), (arI rM_tape kM_tape 900 fM_tape), (arI rM_letters kM_letters 8 f_5971), (arI rM_fresh kM_fresh 287 fM_fresh), (arI rM_read kM_read 90 fM_read)]) hB rfl ht hP hD _ hMs hk1 hFc rfl
              clear hz1 hk1 hvm ht hB hMs
              have hG := hG.trans (un6_eq e_x_5966_3)
              clear r_T
              refine lv_aload_n hx hb dX7_unsureLine_106 rfl (lv_at hl 3 rfl) ?_
              refine lv_iconst (v := 0) hx hb dX7_unsureLine_107 (by decide) ?_
              refine lv_bipush (v := 99) hx hb dX7_unsureLine_108 (by decide) ?_
              have hMs := ml_of hD [true, true, true, false, false] (wc := [(oc7 oM iM_thrown rM_tape iM_taped iM_size x_5966 x_5967 x_5968 x_5969 x_5970 z_5961 z_5962 iM_trouble rM_letters z_5960 iM_hasCourt rM_r rM_fresh rM_told rM_read rM_st rM_undone rM_kept iM_undos iM_images rM_fresher iM_fresherSize iM_scale iM_night rM_heardRow rM_cutRow iM_breaths iM_cutMany iM_allBreaths rM_trial rM_words iM_fewestBreaths iM_orderMany iM_orderSum iM_leastOrder rM_often iM_setMany iM_someOf iM_allOf iM_allWeight iM_enoughWeight iM_worthSum iM_firstRest iM_leastDrawn), (arI rM_tape kM_tape 900 fM_tape), (arI rM_letters kM_letters 8 f_5971)]) rfl
              have hFc := va_freeM hD hS hA _ hMs
              refine va_calli (va_runV (As := [.int 0, .int 99]) (rest := []) ⟨hx, hb, hml, hown, hts⟩ (tX7_number l dC dI _ oM iM_thrown rM_tape fM_tape kM_tape iM_taped iM_size x_5966 x_5967 x_5968 x_5969 x_5970 z_5961 z_5962 iM_trouble rM_letters f_5971 kM_letters z_5960 iM_hasCourt rM_r rM_fresh rM_told rM_read rM_st rM_undone rM_kept iM_undos iM_images rM_fresher iM_fresherSize iM_scale iM_night rM_heardRow rM_cutRow iM_breaths iM_cutMany iM_allBreaths rM_trial rM_words iM_fewestBreaths iM_orderMany iM_orderSum iM_leastOrder rM_often iM_setMany iM_someOf iM_allOf iM_allWeight iM_enoughWeight iM_worthSum iM_firstRest iM_leastDrawn 0 99 b_iM_taped b_iM_size b_x_5967 b_x_5970 b_z_5960 b_iM_hasCourt b_iM_undos b_iM_images b_iM_scale b_iM_breaths b_iM_cutMany e_x_5966_1 (om_b0b40937 kc_0 kc_99)) (cwV 2 hts (wd_V wd_446 wd_447 wd_448 wd_5 (wd_c wd_449)) rfl rfl rfl dv_yX7_number_2 ⟨Nat.le_of_ble_eq_true rfl, Nat.le_of_ble_eq_true rfl⟩) ⟨Pw.fb, recvX7 hK hP (q0 := 0) rfl, fun U hU hW => Pw.to (hP.ms _ hMs) (hD.ms _ hMs) (hK.ms [true, true, false, false] rfl) hE hS hFc hU hW⟩ rfl rfl hl.1 rfl (lv_room (Nat.le_of_ble_eq_true rfl)) dX7_unsureLine_110 ⟨Nat.le_of_ble_eq_true rfl, Nat.le_of_ble_eq_true rfl⟩) hS (fun q _ h => hFc q h) hFc (fun r u t H locs ht hvm hw hB hz1 hk1 hS => ?_)
              have hru9 := hw.2
              have hw := hw.1
              refine ex_9_8 hB (fun x_5972 x_5973 x_5974 x_5975 x_5976 x_5977 x_5978 x_5979 f_5980 b_x_5973 b_x_5976 b_x_5979 e_x_5972_0 e_x_5972_1 e_x_5972_2 e_x_5972_3 e_x_5972_4 hB => ?_)
              obtain ⟨hP, hD⟩ := Bw.goN (ws' := [(oc7 oM iM_thrown rM_tape iM_taped iM_size x_5972 x_5973 x_5974 x_5975 x_5976 x_5977 x_5978 iM_trouble rM_letters x_5979 iM_hasCourt rM_r rM_fresh rM_told rM_read rM_st rM_undone rM_kept iM_undos iM_images rM_fresher iM_fresherSize iM_scale iM_night rM_heardRow rM_cutRow iM_breaths iM_cutMany iM_allBreaths rM_trial rM_words iM_fewestBreaths iM_orderMany iM_orderSum iM_leastOrder rM_often iM_setMany iM_someOf iM_allOf iM_allWeight iM_enoughWeight iM_worthSum iM_firstRest iM_leastDrawn), (arI rM_tape kM_tape 900 fM_tape), (arI rM_letters kM_letters 8 f_5980), (arI rM_fresh kM_fresh 287 fM_fresh), (arI rM_read kM_read 90 fM_read)]) hB rfl ht hP hD _ hMs hk1 hFc rfl
              clear hz1 hk1 hvm ht hB hMs
              rw [← hru9] at e_x_5972_4
              obtain ⟨x_5981, rfl⟩ : ∃ z, z = r := ⟨_, rfl⟩
              have hG := hG.trans (un10_eq e_x_5972_4)
              have lx_5981 := hw.2
              have kl_0 := kc_0
              have kl_99 := kc_99
              clear e_x_5966_1
              clear e_x_5966_2
              refine lv_istore_n (lv' := [(3, .int x_5981), (2, .int x_5882), (1, .int x_5878), (0, .ref oM)]) hx hb dX7_unsureLine_113 rfl hl (by decide) rfl (fun ls hl => ?_)
              refine lv_aload_n hx hb dX7_unsureLine_114 rfl (lv_at hl 3 rfl) ?_
              refine va_get (D := (dC, dI)) (ci := 7) (v := .int x_5979) (C := RX7) (T := TX7) (N := 48) hx hb hts inX7 hown hK hP 0 rfl rfl 13 (by decide) (hts _ wd_380) (fun _ h9 => h9) rfl dX7_unsureLine_115 ?_
              refine lv_if_eq (tgt := 122) hx hb dX7_unsureLine_118 (by decide) (fun c_5982 => ?_) (fun c_5982 => ?_)
              · skip
                have hG := hG.trans (if_pos c_5982)
                have gc_5982 := ti_eq c_5982 rfl kc_0
                exact ((om_5c6c3440 e_x_5956_0 hi1_n_5963 e_x_5972_2 gc_5982)).elim
              · skip
                have hG := hG.trans (if_neg c_5982)
                have gc_5982 := ti_ne c_5982 rfl kc_0
                replace gc_5982 : (-1) * x_5979.toInt + 1 ≤ 0 := om_e3003f79 gc_5982 b_x_5979.1
                exact wq_v hx hb hr 0 trivial (fun t ht hW => ⟨x_5972, x_5973, x_5974, x_5975, x_5976, x_5977, x_5978, x_5979, f_5980, fM_fresh, b_x_5973, b_x_5976, b_x_5979, (om_9348f5ae e_x_5966_0 e_x_5972_0), e_x_5972_1, (om_1fc3dec6 gc_5874 b_x_5979.1), (fun h9 => False.elim (om_a5fe015d gc_5982 h9.1)), r_P, hG, Bw.to hP hD hK ht hW⟩) hS dX7_unsureLine_121 hlocks
            · skip
              have hG := hG.trans (if_neg c_5965)
              have gc_5965 := ti_nle c_5965 rfl rfl
              refine lv_aload_n hx hb dX7_unsureLine_65 rfl (lv_at hl 3 rfl) ?_
              refine va_get (D := (dC, dI)) (ci := 7) (v := .int z_5960) (C := RX7) (T := TX7) (N := 48) hx hb hts inX7 hown hK hP 0 rfl rfl 13 (by decide) (hts _ wd_380) (fun _ h9 => h9) rfl dX7_unsureLine_66 ?_
              refine lv_if_ne (tgt := 96) hx hb dX7_unsureLine_69 (by decide) (fun c_5983 => ?_) (fun c_5983 => ?_)
              · skip
                have hG := hG.trans (if_neg c_5983)
                have gc_5983 := ti_ne c_5983 rfl kc_0
                replace gc_5983 : (-1) * z_5960.toInt + 1 ≤ 0 := om_e3003f79 gc_5983 b_z_5960.1
                obtain ⟨x_5984, ex_5984⟩ : ∃ z : Int32, z = z_5959 + Int32.ofInt 1 := ⟨_, rfl⟩
                have hG := hG.trans (lt_eq ex_5984)
                have vx_5984 : x_5984.toInt = z_5959.toInt + 1 := ti_add (y := 1) ex_5984 rfl kc_1 (om_4e4fce7e hi0_n_5963.1) (om_bae2951a hi0_n_5963.2)
                refine lv_iinc (v := x_5984) (lv' := [(3, .int x_5984), (2, .int x_5882), (1, .int x_5878), (0, .ref oM)]) hx hb dX7_unsureLine_96 hl (k := 0) rfl ex_5984.symm (by decide) rfl (fun ls hl => ?_)
                refine lv_goto (tgt := 55) hx hb dX7_unsureLine_99 (by decide) ?_
                exact ih_n_5963 x_5984 z_5960 z_5961 z_5962 _ _ _ b_z_5960 ⟨(om_83b90de5 hi0_n_5963.1 vx_5984), (om_8267bec5 pl_fM_fresh.2.2.2.1.2 cx_5964 gc_5965 vx_5984)⟩ hi1_n_5963 (ms_lt hm_n_5963 (om_ed22490e vx_5984) (om_e4be4046 pl_fM_fresh.2.2.2.1.2 cx_5964 gc_5965)) hG hP hD hS (lv_sub hl [0, 1, 2, 3] rfl)
              · skip
                have hG := hG.trans (if_pos c_5983)
                have gc_5983 := ti_eq c_5983 rfl kc_0
                exact ((om_2f02dee4 e_x_5956_0 hi1_n_5963 gc_5983)).elim
        exact key_n_5963 (((4 - (0 : Int32).toInt).toNat) + 1) 0 x_5958 x_5956 x_5957 _ _ _ b_x_5958 ⟨(om_b1de7dbe kc_0), (om_bebe011a kc_0)⟩ om_1cb5f934 (Nat.lt_add_one _) hG hP hD hS hl
  · skip
    have hG := hG.trans (if_neg c_5874)
    have gc_5874 := ti_ne c_5874 rfl kc_0
    replace gc_5874 : (-1) * iM_failed.toInt + 1 ≤ 0 := om_e3003f79 gc_5874 b_iM_failed.1
    clear hul
    exact wq_v hx hb hr 0 trivial (fun t ht hW => ⟨iM_at, iM_end, iM_token, iM_whole, iM_nameSize, iM_fault, iM_place, iM_failed, fM_letters, fM_fresh, ⟨b_iM_end.1, b_iM_end.2⟩, ⟨b_iM_nameSize.1, b_iM_nameSize.2⟩, ⟨b_iM_failed.1, b_iM_failed.2⟩, om_1cb5f934, r_T, om_1cb5f934, (fun h9 => False.elim (om_a5fe015d gc_5874 h9.1)), r_P, hG, Bw.to hP hD hK ht hW⟩) hS dX7_unsureLine_7 hlocks
