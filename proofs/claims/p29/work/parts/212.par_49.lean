set_option maxHeartbeats 4000000 in
set_option maxRecDepth 100000 in
theorem tX7_courtLine (l : Launch) (dC : Nat → ClassId) (dI : Nat → Nat → Nat) (sz : Nat) (oM : Nat) (iM_thrown : Int32) (rM_tape : Nat) (fM_tape : Nat → Int32) (kM_tape : ClassId) (iM_taped : Int32) (iM_size : Int32) (iM_at : Int32) (iM_end : Int32) (iM_token : Int32) (iM_whole : Int32) (iM_nameSize : Int32) (iM_fault : Int32) (iM_place : Int32) (iM_trouble : Int32) (rM_letters : Nat) (fM_letters : Nat → Int32) (kM_letters : ClassId) (iM_failed : Int32) (iM_hasCourt : Int32) (rM_r : Nat) (rM_fresh : Nat) (fM_fresh : Nat → Int32) (kM_fresh : ClassId) (rM_told : Nat) (rM_read : Nat) (fM_read : Nat → Int32) (kM_read : ClassId) (rM_st : Nat) (rM_undone : Nat) (rM_kept : Nat) (iM_undos : Int32) (iM_images : Int32) (rM_fresher : Nat) (iM_fresherSize : Int32) (iM_scale : Int32) (iM_night : Int32) (rM_heardRow : Nat) (rM_cutRow : Nat) (iM_breaths : Int32) (iM_cutMany : Int32) (iM_allBreaths : Int32) (rM_trial : Nat) (rM_words : Nat) (iM_fewestBreaths : Int32) (iM_orderMany : Int32) (iM_orderSum : Int32) (iM_leastOrder : Int32) (rM_often : Nat) (iM_setMany : Int32) (iM_someOf : Int32) (iM_allOf : Int32) (iM_allWeight : Int64) (iM_enoughWeight : Int64) (iM_worthSum : Int64) (iM_firstRest : Int32) (iM_leastDrawn : Int32) (b_iM_taped : 0 ≤ iM_taped.toInt ∧ iM_taped.toInt ≤ 900) (b_iM_size : 0 ≤ iM_size.toInt ∧ iM_size.toInt ≤ 900) (b_iM_end : 0 ≤ iM_end.toInt ∧ iM_end.toInt ≤ 900) (b_iM_nameSize : 0 ≤ iM_nameSize.toInt ∧ iM_nameSize.toInt ≤ 900) (b_iM_failed : 0 ≤ iM_failed.toInt ∧ iM_failed.toInt ≤ 1) (b_iM_hasCourt : 0 ≤ iM_hasCourt.toInt ∧ iM_hasCourt.toInt ≤ 1) (b_iM_undos : 0 ≤ iM_undos.toInt ∧ iM_undos.toInt ≤ 16) (b_iM_images : 0 ≤ iM_images.toInt ∧ iM_images.toInt ≤ 3) (b_iM_scale : 1 ≤ iM_scale.toInt ∧ iM_scale.toInt ≤ 1296) (b_iM_breaths : 0 ≤ iM_breaths.toInt ∧ iM_breaths.toInt ≤ 399) (b_iM_cutMany : 0 ≤ iM_cutMany.toInt ∧ iM_cutMany.toInt ≤ 399) (r_T : ImpP (iM_token.toInt = 2) (iM_nameSize.toInt ≤ 8)) (r_P : POk fM_fresh fM_read)  : Met l yX7_courtLine (Cond.code yX7_courtLine cX7_courtLine 1 none :: wG) ({ frames := 8, cells := 0, slots := 0, locals := 199 }) (va_Pc [.ref oM] (Pw dC dI sz [(oc7 oM iM_thrown rM_tape iM_taped iM_size iM_at iM_end iM_token iM_whole iM_nameSize iM_fault iM_place iM_trouble rM_letters iM_failed iM_hasCourt rM_r rM_fresh rM_told rM_read rM_st rM_undone rM_kept iM_undos iM_images rM_fresher iM_fresherSize iM_scale iM_night rM_heardRow rM_cutRow iM_breaths iM_cutMany iM_allBreaths rM_trial rM_words iM_fewestBreaths iM_orderMany iM_orderSum iM_leastOrder rM_often iM_setMany iM_someOf iM_allOf iM_allWeight iM_enoughWeight iM_worthSum iM_firstRest iM_leastDrawn), (arI rM_tape kM_tape 900 fM_tape), (arI rM_letters kM_letters 8 fM_letters), (arI rM_fresh kM_fresh 287 fM_fresh), (arI rM_read kM_read 90 fM_read)] [(kM_tape, .int), (kM_letters, .int), (kM_fresh, .int), (kM_read, .int)])) (va_Qv (fun (_ : Nat) => True) (fun (_ : Nat) (t : State) => ∃ (niM_at : Int32) (niM_end : Int32) (niM_token : Int32) (niM_whole : Int32) (niM_nameSize : Int32) (niM_fault : Int32) (niM_place : Int32) (niM_failed : Int32) (nfM_letters : Nat → Int32) (nfM_fresh : Nat → Int32), (0 ≤ niM_end.toInt ∧ niM_end.toInt ≤ 900) ∧ (0 ≤ niM_nameSize.toInt ∧ niM_nameSize.toInt ≤ 900) ∧ (0 ≤ niM_failed.toInt ∧ niM_failed.toInt ≤ 1) ∧ (iM_end.toInt ≤ niM_end.toInt) ∧ (ImpP (niM_token.toInt = 2) (niM_nameSize.toInt ≤ 8)) ∧ (iM_failed.toInt ≤ niM_failed.toInt) ∧ (ImpP (niM_failed.toInt ≤ 0 ∧ niM_token.toInt = 59 ) (iM_end.toInt + 1 ≤ niM_end.toInt)) ∧ (POk nfM_fresh fM_read) ∧ (PX7_courtLine fM_tape iM_size iM_at iM_end iM_token iM_whole iM_nameSize iM_fault iM_place fM_letters iM_failed fM_fresh = (niM_at, niM_end, niM_token, niM_whole, niM_nameSize, niM_fault, niM_place, niM_failed, nfM_letters, nfM_fresh)) ∧ Bw dC dI (va_A [(oc7 oM iM_thrown rM_tape iM_taped iM_size iM_at iM_end iM_token iM_whole iM_nameSize iM_fault iM_place iM_trouble rM_letters iM_failed iM_hasCourt rM_r rM_fresh rM_told rM_read rM_st rM_undone rM_kept iM_undos iM_images rM_fresher iM_fresherSize iM_scale iM_night rM_heardRow rM_cutRow iM_breaths iM_cutMany iM_allBreaths rM_trial rM_words iM_fewestBreaths iM_orderMany iM_orderSum iM_leastOrder rM_often iM_setMany iM_someOf iM_allOf iM_allWeight iM_enoughWeight iM_worthSum iM_firstRest iM_leastDrawn), (arI rM_tape kM_tape 900 fM_tape), (arI rM_letters kM_letters 8 fM_letters), (arI rM_fresh kM_fresh 287 fM_fresh), (arI rM_read kM_read 90 fM_read)] sz) [(oc7 oM iM_thrown rM_tape iM_taped iM_size niM_at niM_end niM_token niM_whole niM_nameSize niM_fault niM_place iM_trouble rM_letters niM_failed iM_hasCourt rM_r rM_fresh rM_told rM_read rM_st rM_undone rM_kept iM_undos iM_images rM_fresher iM_fresherSize iM_scale iM_night rM_heardRow rM_cutRow iM_breaths iM_cutMany iM_allBreaths rM_trial rM_words iM_fewestBreaths iM_orderMany iM_orderSum iM_leastOrder rM_often iM_setMany iM_someOf iM_allOf iM_allWeight iM_enoughWeight iM_worthSum iM_firstRest iM_leastDrawn), (arI rM_tape kM_tape 900 fM_tape), (arI rM_letters kM_letters 8 nfM_letters), (arI rM_fresh kM_fresh 287 nfM_fresh), (arI rM_read kM_read 90 fM_read)] [(kM_tape, .int), (kM_letters, .int), (kM_fresh, .int), (kM_read, .int)] t) (va_A [(oc7 oM iM_thrown rM_tape iM_taped iM_size iM_at iM_end iM_token iM_whole iM_nameSize iM_fault iM_place iM_trouble rM_letters iM_failed iM_hasCourt rM_r rM_fresh rM_told rM_read rM_st rM_undone rM_kept iM_undos iM_images rM_fresher iM_fresherSize iM_scale iM_night rM_heardRow rM_cutRow iM_breaths iM_cutMany iM_allBreaths rM_trial rM_words iM_fewestBreaths iM_orderMany iM_orderSum iM_leastOrder rM_often iM_setMany iM_someOf iM_allOf iM_allWeight iM_enoughWeight iM_worthSum iM_firstRest iM_leastDrawn), (arI rM_tape kM_tape 900 fM_tape), (arI rM_letters kM_letters 8 fM_letters), (arI rM_fresh kM_fresh 287 fM_fresh), (arI rM_read kM_read 90 fM_read)] sz)) 0 0 (va_A [(oc7 oM iM_thrown rM_tape iM_taped iM_size iM_at iM_end iM_token iM_whole iM_nameSize iM_fault iM_place iM_trouble rM_letters iM_failed iM_hasCourt rM_r rM_fresh rM_told rM_read rM_st rM_undone rM_kept iM_undos iM_images rM_fresher iM_fresherSize iM_scale iM_night rM_heardRow rM_cutRow iM_breaths iM_cutMany iM_allBreaths rM_trial rM_words iM_fewestBreaths iM_orderMany iM_orderSum iM_leastOrder rM_often iM_setMany iM_someOf iM_allOf iM_allWeight iM_enoughWeight iM_worthSum iM_firstRest iM_leastDrawn), (arI rM_tape kM_tape 900 fM_tape), (arI rM_letters kM_letters 8 fM_letters), (arI rM_fresh kM_fresh 287 fM_fresh), (arI rM_read kM_read 90 fM_read)] sz) := by
  refine Met.ofW (cc := cX7_courtLine) (maxL := 1) (ret := none) pnX7 rfl ?_
  intro p e s m args below meth c s₁ B hml hv
  obtain ⟨rfl, hsz, hP, hK, hD0, hE⟩ := hv
  have hx := B.exec
  have hb := B.bytes
  have hr := B.returns
  have hts : ∀ w ∈ wG, w.before ([.ref oM] : List Value).toArray s = true := fun w h => atoms_spec (ws := Cond.code yX7_courtLine cX7_courtLine 1 none :: wG) B.pre w (List.mem_cons_of_mem _ h)
  have hown : s.vm.findClass RX7 = some m.cls := own_of B.named rfl
  have hlocks := B.notSynchronized
  subst hsz
  have hD := hD0.self (sz := s.heap.size)
  generalize hAe : va_A [(oc7 oM iM_thrown rM_tape iM_taped iM_size iM_at iM_end iM_token iM_whole iM_nameSize iM_fault iM_place iM_trouble rM_letters iM_failed iM_hasCourt rM_r rM_fresh rM_told rM_read rM_st rM_undone rM_kept iM_undos iM_images rM_fresher iM_fresherSize iM_scale iM_night rM_heardRow rM_cutRow iM_breaths iM_cutMany iM_allBreaths rM_trial rM_words iM_fewestBreaths iM_orderMany iM_orderSum iM_leastOrder rM_often iM_setMany iM_someOf iM_allOf iM_allWeight iM_enoughWeight iM_worthSum iM_firstRest iM_leastDrawn), (arI rM_tape kM_tape 900 fM_tape), (arI rM_letters kM_letters 8 fM_letters), (arI rM_fresh kM_fresh 287 fM_fresh), (arI rM_read kM_read 90 fM_read)] s.heap.size = A at hD hE ⊢
  have hA : ∀ q : Nat, s.heap.size ≤ q → A q := fun q h => by rw [← hAe]; exact Or.inr h
  have hS : va_S A s.heap s.heap [] := va_S.rf
  have hl := lv_entry ([.ref oM]) (n := 1) (Nat.le_of_ble_eq_true rfl)
  rw [lg_entry_eq]
  generalize (lg_sl ([.ref oM]) ++ List.replicate (1 - (lg_sl ([.ref oM])).length) Slot.unset).toArray = ls at hl ⊢
  have hl : lv_has ls 1 [(0, .ref oM)] := hl
  have hG := PX7_courtLine_eq fM_tape iM_size iM_at iM_end iM_token iM_whole iM_nameSize iM_fault iM_place fM_letters iM_failed fM_fresh
  have pl_fM_fresh := r_P.lins
  refine lv_aload_n hx hb dX7_courtLine_0 rfl (lv_at hl 0 rfl) ?_
  refine va_get (D := (dC, dI)) (ci := 7) (v := .ref rM_fresh) (C := RX7) (T := TX7) (N := 48) hx hb hts inX7 hown hK hP 0 rfl rfl 16 (by decide) (hts _ wd_156) (fun _ h9 => h9) rfl dX7_courtLine_1 ?_
  refine lv_iconst (v := 5) hx hb dX7_courtLine_4 (by decide) ?_
  refine va_iald hx hb hK hP 3 2 rfl rfl (by unfold vp_in; decide) dX7_courtLine_5 ?_
  refine lv_topi (fun x_5488 ex_5488 => ?_)
  have hG := hG.trans (lt_eq ex_5488)
  have cx_5488 : (fM_fresh 5).toInt = x_5488.toInt := congrArg Int32.toInt (show fM_fresh 5 = x_5488 from ex_5488.symm)
  refine lv_if_le (tgt := 18) hx hb dX7_courtLine_6 (by decide) (fun c_5489 => ?_) (fun c_5489 => ?_)
  · skip
    have hG := hG.trans (if_pos c_5489)
    have gc_5489 := ti_le c_5489 rfl kc_0
    refine lv_aload_n hx hb dX7_courtLine_18 rfl (lv_at hl 0 rfl) ?_
    refine va_get (D := (dC, dI)) (ci := 7) (v := .int iM_failed) (C := RX7) (T := TX7) (N := 48) hx hb hts inX7 hown hK hP 0 rfl rfl 13 (by decide) (hts _ wd_380) (fun _ h9 => h9) rfl dX7_courtLine_19 ?_
    refine lv_if_eq (tgt := 26) hx hb dX7_courtLine_22 (by decide) (fun c_5490 => ?_) (fun c_5490 => ?_)
    · skip
      have hG := hG.trans (if_pos c_5490)
      have gc_5490 := ti_eq c_5490 rfl kc_0
      refine lv_aload_n hx hb dX7_courtLine_26 rfl (lv_at hl 0 rfl) ?_
      have hMs := ml_of hD [true, true, true, false, false] (wc := [(oc7 oM iM_thrown rM_tape iM_taped iM_size iM_at iM_end iM_token iM_whole iM_nameSize iM_fault iM_place iM_trouble rM_letters iM_failed iM_hasCourt rM_r rM_fresh rM_told rM_read rM_st rM_undone rM_kept iM_undos iM_images rM_fresher iM_fresherSize iM_scale iM_night rM_heardRow rM_cutRow iM_breaths iM_cutMany iM_allBreaths rM_trial rM_words iM_fewestBreaths iM_orderMany iM_orderSum iM_leastOrder rM_often iM_setMany iM_someOf iM_allOf iM_allWeight iM_enoughWeight iM_worthSum iM_firstRest iM_leastDrawn), (arI rM_tape kM_tape 900 fM_tape), (arI rM_letters kM_letters 8 fM_letters)]) rfl
      have hFc := va_freeM hD hS hA _ hMs
      refine va_callv (va_runV (As := []) (rest := []) ⟨hx, hb, hml, hown, hts⟩ (tX7_next l dC dI _ oM iM_thrown rM_tape fM_tape kM_tape iM_taped iM_size iM_at iM_end iM_token iM_whole iM_nameSize iM_fault iM_place iM_trouble rM_letters fM_letters kM_letters iM_failed iM_hasCourt rM_r rM_fresh rM_told rM_read rM_st rM_undone rM_kept iM_undos iM_images rM_fresher iM_fresherSize iM_scale iM_night rM_heardRow rM_cutRow iM_breaths iM_cutMany iM_allBreaths rM_trial rM_words iM_fewestBreaths iM_orderMany iM_orderSum iM_leastOrder rM_often iM_setMany iM_someOf iM_allOf iM_allWeight iM_enoughWeight iM_worthSum iM_firstRest iM_leastDrawn b_iM_taped b_iM_size b_iM_end b_iM_nameSize b_iM_failed b_iM_hasCourt b_iM_undos b_iM_images b_iM_scale b_iM_breaths b_iM_cutMany r_T) (cwV 0 hts (wd_V wd_400 wd_401 wd_402 wd_5 (wd_c wd_403)) rfl rfl rfl dv_yX7_next_0 ⟨Nat.le_of_ble_eq_true rfl, Nat.le_of_ble_eq_true rfl⟩) ⟨Pw.fb, recvX7 hK hP (q0 := 0) rfl, fun U hU hW => Pw.to (hP.ms _ hMs) (hD.ms _ hMs) (hK.ms [true, true, false, false] rfl) hE hS hFc hU hW⟩ rfl rfl hl.1 rfl (lv_room (Nat.le_of_ble_eq_true rfl)) dX7_courtLine_27 ⟨Nat.le_of_ble_eq_true rfl, Nat.le_of_ble_eq_true rfl⟩) hS (fun q _ h => hFc q h) hFc (fun u t H locs ht hvm hw hB hz1 hk1 hS => ?_)
      refine ex_6_6 hB (fun x_5491 x_5492 x_5493 x_5494 x_5495 f_5496 b_x_5492 b_x_5495 e_x_5491_0 e_x_5491_1 e_x_5491_2 e_x_5491_3 hB => ?_)
      obtain ⟨hP, hD⟩ := Bw.goN (ws' := [(oc7 oM iM_thrown rM_tape iM_taped iM_size x_5491 x_5492 x_5493 x_5494 x_5495 iM_fault iM_place iM_trouble rM_letters iM_failed iM_hasCourt rM_r rM_fresh rM_told rM_read rM_st rM_undone rM_kept iM_undos iM_images rM_fresher iM_fresherSize iM_scale iM_night rM_heardRow rM_cutRow iM_breaths iM_cutMany iM_allBreaths rM_trial rM_words iM_fewestBreaths iM_orderMany iM_orderSum iM_leastOrder rM_often iM_setMany iM_someOf iM_allOf iM_allWeight iM_enoughWeight iM_worthSum iM_firstRest iM_leastDrawn), (arI rM_tape kM_tape 900 fM_tape), (arI rM_letters kM_letters 8 f_5496), (arI rM_fresh kM_fresh 287 fM_fresh), (arI rM_read kM_read 90 fM_read)]) hB rfl ht hP hD _ hMs hk1 hFc rfl
      clear hz1 hk1 hvm ht hB hMs
      have hG := hG.trans (un6_eq e_x_5491_3)
      clear r_T
      refine lv_aload_n hx hb dX7_courtLine_30 rfl (lv_at hl 0 rfl) ?_
      refine va_get (D := (dC, dI)) (ci := 7) (v := .ref rM_fresh) (C := RX7) (T := TX7) (N := 48) hx hb hts inX7 hown hK hP 0 rfl rfl 16 (by decide) (hts _ wd_156) (fun _ h9 => h9) rfl dX7_courtLine_31 ?_
      refine lv_iconst (v := 0) hx hb dX7_courtLine_34 (by decide) ?_
      refine lv_aload_n hx hb dX7_courtLine_35 rfl (lv_at hl 0 rfl) ?_
      obtain ⟨sa_5497, vsa_5497, nsa_5497, fsa_5497, hnsa_5497, hnesa_5497, hfesa_5497, hRsa_5497, hSsa_5497⟩ := hE.2.2.1 (222, "slips", [115, 108, 105, 112, 115]) (by decide)
      have hG := hG.trans (lt_eq hnesa_5497)
      have hG := hG.trans (lt_eq hfesa_5497)
      refine va_ldcS hx hb hown hRsa_5497 dX7_courtLine_36 ?_
      refine lv_iconst (v := 0) hx hb dX7_courtLine_38 (by decide) ?_
      refine lv_bipush (v := 100) hx hb dX7_courtLine_39 (by decide) ?_
      have hMs := ml_of hD [true, true, true, false, false] (wc := [(oc7 oM iM_thrown rM_tape iM_taped iM_size x_5491 x_5492 x_5493 x_5494 x_5495 iM_fault iM_place iM_trouble rM_letters iM_failed iM_hasCourt rM_r rM_fresh rM_told rM_read rM_st rM_undone rM_kept iM_undos iM_images rM_fresher iM_fresherSize iM_scale iM_night rM_heardRow rM_cutRow iM_breaths iM_cutMany iM_allBreaths rM_trial rM_words iM_fewestBreaths iM_orderMany iM_orderSum iM_leastOrder rM_often iM_setMany iM_someOf iM_allOf iM_allWeight iM_enoughWeight iM_worthSum iM_firstRest iM_leastDrawn), (arI rM_tape kM_tape 900 fM_tape), (arI rM_letters kM_letters 8 f_5496)]) rfl
      have hFc := va_freeM hD hS hA _ hMs
      refine va_calli (va_runV (As := [.ref sa_5497, .int 0, .int 100]) (rest := [.int 0, .ref rM_fresh]) ⟨hx, hb, hml, hown, hts⟩ (tX7_after l dC dI _ oM iM_thrown rM_tape fM_tape kM_tape iM_taped iM_size x_5491 x_5492 x_5493 x_5494 x_5495 iM_fault iM_place iM_trouble rM_letters f_5496 kM_letters iM_failed iM_hasCourt rM_r rM_fresh rM_told rM_read rM_st rM_undone rM_kept iM_undos iM_images rM_fresher iM_fresherSize iM_scale iM_night rM_heardRow rM_cutRow iM_breaths iM_cutMany iM_allBreaths rM_trial rM_words iM_fewestBreaths iM_orderMany iM_orderSum iM_leastOrder rM_often iM_setMany iM_someOf iM_allOf iM_allWeight iM_enoughWeight iM_worthSum iM_firstRest iM_leastDrawn sa_5497 0 100 vsa_5497 nsa_5497 fsa_5497 b_iM_taped b_iM_size b_x_5492 b_x_5495 b_iM_failed b_iM_hasCourt b_iM_undos b_iM_images b_iM_scale b_iM_breaths b_iM_cutMany e_x_5491_1 (Nat.le_trans (Nat.le_of_eq hnesa_5497) (by decide)) (om_f028b7c4 kc_0 kc_100)) (cwV 3 hts (wd_V wd_434 wd_435 wd_436 wd_5 (wd_c wd_437)) rfl rfl rfl dv_yX7_after_3 ⟨Nat.le_of_ble_eq_true rfl, Nat.le_of_ble_eq_true rfl⟩) ⟨Pq.fb, recvX7 hK hP (q0 := 0) rfl, fun U hU hW => Pq.to (hP.ms _ hMs) (hD.ms _ hMs) (hK.ms [true, true, false, false] rfl) hSsa_5497 hE hS hFc hU hW⟩ rfl rfl hl.1 rfl (lv_room (Nat.le_of_ble_eq_true rfl)) dX7_courtLine_41 ⟨Nat.le_of_ble_eq_true rfl, Nat.le_of_ble_eq_true rfl⟩) hS (fun q _ h => hFc q h) hFc (fun r u t H locs ht hvm hw hB hz1 hk1 hS => ?_)
      have hru9 := hw.2
      have hw := hw.1
      refine ex_9_8 hB (fun x_5498 x_5499 x_5500 x_5501 x_5502 x_5503 x_5504 x_5505 f_5506 b_x_5499 b_x_5502 b_x_5505 e_x_5498_0 e_x_5498_1 e_x_5498_2 e_x_5498_3 e_x_5498_4 hB => ?_)
      obtain ⟨hP, hD⟩ := Bw.goN (ws' := [(oc7 oM iM_thrown rM_tape iM_taped iM_size x_5498 x_5499 x_5500 x_5501 x_5502 x_5503 x_5504 iM_trouble rM_letters x_5505 iM_hasCourt rM_r rM_fresh rM_told rM_read rM_st rM_undone rM_kept iM_undos iM_images rM_fresher iM_fresherSize iM_scale iM_night rM_heardRow rM_cutRow iM_breaths iM_cutMany iM_allBreaths rM_trial rM_words iM_fewestBreaths iM_orderMany iM_orderSum iM_leastOrder rM_often iM_setMany iM_someOf iM_allOf iM_allWeight iM_enoughWeight iM_worthSum iM_firstRest iM_leastDrawn), (arI rM_tape kM_tape 900 fM_tape), (arI rM_letters kM_letters 8 f_5506), (arI rM_fresh kM_fresh 287 fM_fresh), (arI rM_read kM_read 90 fM_read)]) hB rfl ht hP hD _ hMs hk1 hFc rfl
      clear hz1 hk1 hvm ht hB hMs
      rw [← hru9] at e_x_5498_4
      obtain ⟨x_5507, rfl⟩ : ∃ z, z = r := ⟨_, rfl⟩
      have hG := hG.trans (un10_eq e_x_5498_4)
      have lx_5507 := hw.2
      have kl_0 := kc_0
      have kl_100 := kc_100
      clear e_x_5491_1
      clear e_x_5491_2
      refine va_iast hx hb hK hP hD hS 3 2 rfl rfl (by unfold vp_in; decide) dX7_courtLine_44 (fun H locs hP hD hS => ?_)
      obtain ⟨f_5508, ef_5508⟩ : ∃ g : Nat → Int32, g = upd fM_fresh (0 : Int32).toNatClampNeg x_5507 := ⟨_, rfl⟩
      rw [← ef_5508] at hP hD
      have hG := hG.trans (lt_eq ef_5508)
      obtain ⟨hP, hD⟩ := wl2 (ws' := [(oc7 oM iM_thrown rM_tape iM_taped iM_size x_5498 x_5499 x_5500 x_5501 x_5502 x_5503 x_5504 iM_trouble rM_letters x_5505 iM_hasCourt rM_r rM_fresh rM_told rM_read rM_st rM_undone rM_kept iM_undos iM_images rM_fresher iM_fresherSize iM_scale iM_night rM_heardRow rM_cutRow iM_breaths iM_cutMany iM_allBreaths rM_trial rM_words iM_fewestBreaths iM_orderMany iM_orderSum iM_leastOrder rM_often iM_setMany iM_someOf iM_allOf iM_allWeight iM_enoughWeight iM_worthSum iM_firstRest iM_leastDrawn), (arI rM_tape kM_tape 900 fM_tape), (arI rM_letters kM_letters 8 f_5506), (arI rM_fresh kM_fresh 287 f_5508), (arI rM_read kM_read 90 fM_read)]) hP hD rfl
      have pk_f_5508 : POk f_5508 fM_read := POk.put r_P ef_5508 (Or.inl (by have q9 : ((0 : Int32).toNatClampNeg : Nat) = 0 := rfl; omega))
      have pl_f_5508 := pk_f_5508.lins
      refine lv_aload_n hx hb dX7_courtLine_45 rfl (lv_at hl 0 rfl) ?_
      refine va_get (D := (dC, dI)) (ci := 7) (v := .int x_5505) (C := RX7) (T := TX7) (N := 48) hx hb hts inX7 hown hK hP 0 rfl rfl 13 (by decide) (hts _ wd_380) (fun _ h9 => h9) rfl dX7_courtLine_46 ?_
      refine lv_if_ne (tgt := 59) hx hb dX7_courtLine_49 (by decide) (fun c_5509 => ?_) (fun c_5509 => ?_)
      · skip
        have hG := hG.trans (if_neg c_5509)
        have gc_5509 := ti_ne c_5509 rfl kc_0
        replace gc_5509 : (-1) * x_5505.toInt + 1 ≤ 0 := om_e3003f79 gc_5509 b_x_5505.1
        exact wq_v hx hb hr 0 trivial (fun t ht hW => ⟨x_5498, x_5499, x_5500, x_5501, x_5502, x_5503, x_5504, x_5505, f_5506, f_5508, b_x_5499, b_x_5502, b_x_5505, (om_9348f5ae e_x_5491_0 e_x_5498_0), e_x_5498_1, (om_1fc3dec6 gc_5490 b_x_5505.1), (fun h9 => False.elim (om_a5fe015d gc_5509 h9.1)), pk_f_5508, hG, Bw.to hP hD hK ht hW⟩) hS dX7_courtLine_59 hlocks
      · skip
        have hG := hG.trans (if_pos c_5509)
        have gc_5509 := ti_eq c_5509 rfl kc_0
        refine lv_aload_n hx hb dX7_courtLine_52 rfl (lv_at hl 0 rfl) ?_
        refine va_get (D := (dC, dI)) (ci := 7) (v := .ref rM_fresh) (C := RX7) (T := TX7) (N := 48) hx hb hts inX7 hown hK hP 0 rfl rfl 16 (by decide) (hts _ wd_156) (fun _ h9 => h9) rfl dX7_courtLine_53 ?_
        refine lv_iconst (v := 5) hx hb dX7_courtLine_56 (by decide) ?_
        refine lv_iconst (v := 1) hx hb dX7_courtLine_57 (by decide) ?_
        refine va_iast hx hb hK hP hD hS 3 2 rfl rfl (by unfold vp_in; decide) dX7_courtLine_58 (fun H locs hP hD hS => ?_)
        obtain ⟨f_5510, ef_5510⟩ : ∃ g : Nat → Int32, g = upd f_5508 (5 : Int32).toNatClampNeg (1 : Int32) := ⟨_, rfl⟩
        rw [← ef_5510] at hP hD
        have hG := hG.trans (lt_eq ef_5510)
        obtain ⟨hP, hD⟩ := wl2 (ws' := [(oc7 oM iM_thrown rM_tape iM_taped iM_size x_5498 x_5499 x_5500 x_5501 x_5502 x_5503 x_5504 iM_trouble rM_letters x_5505 iM_hasCourt rM_r rM_fresh rM_told rM_read rM_st rM_undone rM_kept iM_undos iM_images rM_fresher iM_fresherSize iM_scale iM_night rM_heardRow rM_cutRow iM_breaths iM_cutMany iM_allBreaths rM_trial rM_words iM_fewestBreaths iM_orderMany iM_orderSum iM_leastOrder rM_often iM_setMany iM_someOf iM_allOf iM_allWeight iM_enoughWeight iM_worthSum iM_firstRest iM_leastDrawn), (arI rM_tape kM_tape 900 fM_tape), (arI rM_letters kM_letters 8 f_5506), (arI rM_fresh kM_fresh 287 f_5510), (arI rM_read kM_read 90 fM_read)]) hP hD rfl
        have pk_f_5510 : POk f_5510 fM_read := POk.put pk_f_5508 ef_5510 (Or.inr (Or.inr (Or.inl (by have q9 : ((5 : Int32).toNatClampNeg : Nat) = 5 := rfl; have q8 := kc_1; omega))))
        have pl_f_5510 := pk_f_5510.lins
        exact wq_v hx hb hr 0 trivial (fun t ht hW => ⟨x_5498, x_5499, x_5500, x_5501, x_5502, x_5503, x_5504, x_5505, f_5506, f_5510, b_x_5499, b_x_5502, b_x_5505, (om_9348f5ae e_x_5491_0 e_x_5498_0), e_x_5498_1, (om_1fc3dec6 gc_5490 b_x_5505.1), (fun h9 => (om_7ed234da e_x_5491_0 (e_x_5498_3 ⟨(om_02e9bb08 gc_5509), h9.2⟩))), pk_f_5510, hG, Bw.to hP hD hK ht hW⟩) hS dX7_courtLine_59 hlocks
    · skip
      have hG := hG.trans (if_neg c_5490)
      have gc_5490 := ti_ne c_5490 rfl kc_0
      replace gc_5490 : (-1) * iM_failed.toInt + 1 ≤ 0 := om_e3003f79 gc_5490 b_iM_failed.1
      exact wq_v hx hb hr 0 trivial (fun t ht hW => ⟨iM_at, iM_end, iM_token, iM_whole, iM_nameSize, iM_fault, iM_place, iM_failed, fM_letters, fM_fresh, ⟨b_iM_end.1, b_iM_end.2⟩, ⟨b_iM_nameSize.1, b_iM_nameSize.2⟩, ⟨b_iM_failed.1, b_iM_failed.2⟩, om_1cb5f934, r_T, om_1cb5f934, (fun h9 => False.elim (om_a5fe015d gc_5490 h9.1)), r_P, hG, Bw.to hP hD hK ht hW⟩) hS dX7_courtLine_25 hlocks
  · skip
    have hG := hG.trans (if_neg c_5489)
    have gc_5489 := ti_nle c_5489 rfl kc_0
    refine lv_aload_n hx hb dX7_courtLine_9 rfl (lv_at hl 0 rfl) ?_
    refine lv_iconst (v := 3) hx hb dX7_courtLine_10 (by decide) ?_
    refine lv_aload_n hx hb dX7_courtLine_11 rfl (lv_at hl 0 rfl) ?_
    refine va_get (D := (dC, dI)) (ci := 7) (v := .int iM_at) (C := RX7) (T := TX7) (N := 48) hx hb hts inX7 hown hK hP 0 rfl rfl 4 (by decide) (hts _ wd_384) (fun _ h9 => h9) rfl dX7_courtLine_12 ?_
    have hMs := ml_of hD [true, false, false, false, false] (wc := [(oc7 oM iM_thrown rM_tape iM_taped iM_size iM_at iM_end iM_token iM_whole iM_nameSize iM_fault iM_place iM_trouble rM_letters iM_failed iM_hasCourt rM_r rM_fresh rM_told rM_read rM_st rM_undone rM_kept iM_undos iM_images rM_fresher iM_fresherSize iM_scale iM_night rM_heardRow rM_cutRow iM_breaths iM_cutMany iM_allBreaths rM_trial rM_words iM_fewestBreaths iM_orderMany iM_orderSum iM_leastOrder rM_often iM_setMany iM_someOf iM_allOf iM_allWeight iM_enoughWeight iM_worthSum iM_firstRest iM_leastDrawn)]) rfl
    have hFc := va_freeM hD hS hA _ hMs
    refine va_callv (va_runV (As := [.int 3, .int iM_at]) (rest := []) ⟨hx, hb, hml, hown, hts⟩ (tX7_wrong l dC dI _ oM iM_thrown rM_tape iM_taped iM_size iM_at iM_end iM_token iM_whole iM_nameSize iM_fault iM_place iM_trouble rM_letters iM_failed iM_hasCourt rM_r rM_fresh rM_told rM_read rM_st rM_undone rM_kept iM_undos iM_images rM_fresher iM_fresherSize iM_scale iM_night rM_heardRow rM_cutRow iM_breaths iM_cutMany iM_allBreaths rM_trial rM_words iM_fewestBreaths iM_orderMany iM_orderSum iM_leastOrder rM_often iM_setMany iM_someOf iM_allOf iM_allWeight iM_enoughWeight iM_worthSum iM_firstRest iM_leastDrawn 3 iM_at b_iM_taped b_iM_size b_iM_end b_iM_nameSize b_iM_failed b_iM_hasCourt b_iM_undos b_iM_images b_iM_scale b_iM_breaths b_iM_cutMany r_T) (cwV 2 hts (wd_V wd_430 wd_431 wd_432 wd_5 (wd_c wd_433)) rfl rfl rfl dv_yX7_wrong_2 ⟨Nat.le_of_ble_eq_true rfl, Nat.le_of_ble_eq_true rfl⟩) ⟨Pw.fb, recvX7 hK hP (q0 := 0) rfl, fun U hU hW => Pw.to (hP.ms _ hMs) (hD.ms _ hMs) (hK.ms [false, false, false, false] rfl) hE hS hFc hU hW⟩ rfl rfl hl.1 rfl (lv_room (Nat.le_of_ble_eq_true rfl)) dX7_courtLine_15 ⟨Nat.le_of_ble_eq_true rfl, Nat.le_of_ble_eq_true rfl⟩) hS (fun q _ h => hFc q h) hFc (fun u t H locs ht hvm hw hB hz1 hk1 hS => ?_)
    refine ex_3_3 hB (fun x_5511 x_5512 x_5513 b_x_5513 e_x_5511_0 e_x_5511_1 hB => ?_)
    obtain ⟨hP, hD⟩ := Bw.goN (ws' := [(oc7 oM iM_thrown rM_tape iM_taped iM_size iM_at iM_end iM_token iM_whole iM_nameSize x_5511 x_5512 iM_trouble rM_letters x_5513 iM_hasCourt rM_r rM_fresh rM_told rM_read rM_st rM_undone rM_kept iM_undos iM_images rM_fresher iM_fresherSize iM_scale iM_night rM_heardRow rM_cutRow iM_breaths iM_cutMany iM_allBreaths rM_trial rM_words iM_fewestBreaths iM_orderMany iM_orderSum iM_leastOrder rM_often iM_setMany iM_someOf iM_allOf iM_allWeight iM_enoughWeight iM_worthSum iM_firstRest iM_leastDrawn), (arI rM_tape kM_tape 900 fM_tape), (arI rM_letters kM_letters 8 fM_letters), (arI rM_fresh kM_fresh 287 fM_fresh), (arI rM_read kM_read 90 fM_read)]) hB rfl ht hP hD _ hMs hk1 hFc rfl
    clear hz1 hk1 hvm ht hB hMs
    have hG := hG.trans (un3_eq e_x_5511_1)
    refine lv_aload_n hx hb dX7_courtLine_18 rfl (lv_at hl 0 rfl) ?_
    refine va_get (D := (dC, dI)) (ci := 7) (v := .int x_5513) (C := RX7) (T := TX7) (N := 48) hx hb hts inX7 hown hK hP 0 rfl rfl 13 (by decide) (hts _ wd_380) (fun _ h9 => h9) rfl dX7_courtLine_19 ?_
    refine lv_if_eq (tgt := 26) hx hb dX7_courtLine_22 (by decide) (fun c_5514 => ?_) (fun c_5514 => ?_)
    · skip
      have hG := hG.trans (if_pos c_5514)
      have gc_5514 := ti_eq c_5514 rfl kc_0
      exact ((om_b1155cdc e_x_5511_0 gc_5514)).elim
    · skip
      have hG := hG.trans (if_neg c_5514)
      have gc_5514 := ti_ne c_5514 rfl kc_0
      replace gc_5514 : (-1) * x_5513.toInt + 1 ≤ 0 := om_e3003f79 gc_5514 b_x_5513.1
      exact wq_v hx hb hr 0 trivial (fun t ht hW => ⟨iM_at, iM_end, iM_token, iM_whole, iM_nameSize, x_5511, x_5512, x_5513, fM_letters, fM_fresh, ⟨b_iM_end.1, b_iM_end.2⟩, ⟨b_iM_nameSize.1, b_iM_nameSize.2⟩, b_x_5513, om_1cb5f934, r_T, (om_00f1c5dd b_iM_failed.2 e_x_5511_0), (fun h9 => False.elim (om_92495247 e_x_5511_0 h9.1)), r_P, hG, Bw.to hP hD hK ht hW⟩) hS dX7_courtLine_25 hlocks
set_option maxHeartbeats 4000000 in
set_option maxRecDepth 100000 in
theorem tX7_wordLine (l : Launch) (dC : Nat → ClassId) (dI : Nat → Nat → Nat) (sz : Nat) (oM : Nat) (iM_thrown : Int32) (rM_tape : Nat) (fM_tape : Nat → Int32) (kM_tape : ClassId) (iM_taped : Int32) (iM_size : Int32) (iM_at : Int32) (iM_end : Int32) (iM_token : Int32) (iM_whole : Int32) (iM_nameSize : Int32) (iM_fault : Int32) (iM_place : Int32) (iM_trouble : Int32) (rM_letters : Nat) (fM_letters : Nat → Int32) (kM_letters : ClassId) (iM_failed : Int32) (iM_hasCourt : Int32) (rM_r : Nat) (rM_fresh : Nat) (fM_fresh : Nat → Int32) (kM_fresh : ClassId) (rM_told : Nat) (rM_read : Nat) (fM_read : Nat → Int32) (kM_read : ClassId) (rM_st : Nat) (rM_undone : Nat) (rM_kept : Nat) (iM_undos : Int32) (iM_images : Int32) (rM_fresher : Nat) (fM_fresher : Nat → Int32) (kM_fresher : ClassId) (iM_fresherSize : Int32) (iM_scale : Int32) (iM_night : Int32) (rM_heardRow : Nat) (rM_cutRow : Nat) (iM_breaths : Int32) (iM_cutMany : Int32) (iM_allBreaths : Int32) (rM_trial : Nat) (rM_words : Nat) (iM_fewestBreaths : Int32) (iM_orderMany : Int32) (iM_orderSum : Int32) (iM_leastOrder : Int32) (rM_often : Nat) (iM_setMany : Int32) (iM_someOf : Int32) (iM_allOf : Int32) (iM_allWeight : Int64) (iM_enoughWeight : Int64) (iM_worthSum : Int64) (iM_firstRest : Int32) (iM_leastDrawn : Int32) (b_iM_taped : 0 ≤ iM_taped.toInt ∧ iM_taped.toInt ≤ 900) (b_iM_size : 0 ≤ iM_size.toInt ∧ iM_size.toInt ≤ 900) (b_iM_end : 0 ≤ iM_end.toInt ∧ iM_end.toInt ≤ 900) (b_iM_nameSize : 0 ≤ iM_nameSize.toInt ∧ iM_nameSize.toInt ≤ 900) (b_iM_failed : 0 ≤ iM_failed.toInt ∧ iM_failed.toInt ≤ 1) (b_iM_hasCourt : 0 ≤ iM_hasCourt.toInt ∧ iM_hasCourt.toInt ≤ 1) (b_iM_undos : 0 ≤ iM_undos.toInt ∧ iM_undos.toInt ≤ 16) (b_iM_images : 0 ≤ iM_images.toInt ∧ iM_images.toInt ≤ 3) (b_iM_scale : 1 ≤ iM_scale.toInt ∧ iM_scale.toInt ≤ 1296) (b_iM_breaths : 0 ≤ iM_breaths.toInt ∧ iM_breaths.toInt ≤ 399) (b_iM_cutMany : 0 ≤ iM_cutMany.toInt ∧ iM_cutMany.toInt ≤ 399) (r_T : ImpP (iM_token.toInt = 2) (iM_nameSize.toInt ≤ 8)) (r_P : POk fM_fresh fM_read) (hwl : ImpP (iM_failed.toInt ≤ 0) ((fM_fresh 2).toInt ≤ 9)) : Met l yX7_wordLine (Cond.code yX7_wordLine cX7_wordLine 2 none :: wG) ({ frames := 8, cells := 0, slots := 0, locals := 199 }) (va_Pc [.ref oM] (Pw dC dI sz [(oc7 oM iM_thrown rM_tape iM_taped iM_size iM_at iM_end iM_token iM_whole iM_nameSize iM_fault iM_place iM_trouble rM_letters iM_failed iM_hasCourt rM_r rM_fresh rM_told rM_read rM_st rM_undone rM_kept iM_undos iM_images rM_fresher iM_fresherSize iM_scale iM_night rM_heardRow rM_cutRow iM_breaths iM_cutMany iM_allBreaths rM_trial rM_words iM_fewestBreaths iM_orderMany iM_orderSum iM_leastOrder rM_often iM_setMany iM_someOf iM_allOf iM_allWeight iM_enoughWeight iM_worthSum iM_firstRest iM_leastDrawn), (arI rM_tape kM_tape 900 fM_tape), (arI rM_letters kM_letters 8 fM_letters), (arI rM_fresh kM_fresh 287 fM_fresh), (arI rM_read kM_read 90 fM_read), (arI rM_fresher kM_fresher 8 fM_fresher)] [(kM_tape, .int), (kM_letters, .int), (kM_fresh, .int), (kM_read, .int), (kM_fresher, .int)])) (va_Qv (fun (_ : Nat) => True) (fun (_ : Nat) (t : State) => ∃ (niM_at : Int32) (niM_end : Int32) (niM_token : Int32) (niM_whole : Int32) (niM_nameSize : Int32) (niM_fault : Int32) (niM_place : Int32) (niM_failed : Int32) (niM_fresherSize : Int32) (nfM_letters : Nat → Int32) (nfM_fresh : Nat → Int32) (nfM_read : Nat → Int32) (nfM_fresher : Nat → Int32), (0 ≤ niM_end.toInt ∧ niM_end.toInt ≤ 900) ∧ (0 ≤ niM_nameSize.toInt ∧ niM_nameSize.toInt ≤ 900) ∧ (0 ≤ niM_failed.toInt ∧ niM_failed.toInt ≤ 1) ∧ (iM_end.toInt ≤ niM_end.toInt) ∧ (ImpP (niM_token.toInt = 2) (niM_nameSize.toInt ≤ 8)) ∧ (iM_failed.toInt ≤ niM_failed.toInt) ∧ (ImpP (niM_failed.toInt ≤ 0 ∧ niM_token.toInt = 59 ) (iM_end.toInt + 1 ≤ niM_end.toInt)) ∧ (POk nfM_fresh nfM_read) ∧ (PX7_wordLine fM_tape iM_size iM_at iM_end iM_token iM_whole iM_nameSize iM_fault iM_place fM_letters iM_failed fM_fresh fM_read fM_fresher iM_fresherSize = (niM_at, niM_end, niM_token, niM_whole, niM_nameSize, niM_fault, niM_place, niM_failed, niM_fresherSize, nfM_letters, nfM_fresh, nfM_read, nfM_fresher)) ∧ Bw dC dI (va_A [(oc7 oM iM_thrown rM_tape iM_taped iM_size iM_at iM_end iM_token iM_whole iM_nameSize iM_fault iM_place iM_trouble rM_letters iM_failed iM_hasCourt rM_r rM_fresh rM_told rM_read rM_st rM_undone rM_kept iM_undos iM_images rM_fresher iM_fresherSize iM_scale iM_night rM_heardRow rM_cutRow iM_breaths iM_cutMany iM_allBreaths rM_trial rM_words iM_fewestBreaths iM_orderMany iM_orderSum iM_leastOrder rM_often iM_setMany iM_someOf iM_allOf iM_allWeight iM_enoughWeight iM_worthSum iM_firstRest iM_leastDrawn), (arI rM_tape kM_tape 900 fM_tape), (arI rM_letters kM_letters 8 fM_letters), (arI rM_fresh kM_fresh 287 fM_fresh), (arI rM_read kM_read 90 fM_read), (arI rM_fresher kM_fresher 8 fM_fresher)] sz) [(oc7 oM iM_thrown rM_tape iM_taped iM_size niM_at niM_end niM_token niM_whole niM_nameSize niM_fault niM_place iM_trouble rM_letters niM_failed iM_hasCourt rM_r rM_fresh rM_told rM_read rM_st rM_undone rM_kept iM_undos iM_images rM_fresher niM_fresherSize iM_scale iM_night rM_heardRow rM_cutRow iM_breaths iM_cutMany iM_allBreaths rM_trial rM_words iM_fewestBreaths iM_orderMany iM_orderSum iM_leastOrder rM_often iM_setMany iM_someOf iM_allOf iM_allWeight iM_enoughWeight iM_worthSum iM_firstRest iM_leastDrawn), (arI rM_tape kM_tape 900 fM_tape), (arI rM_letters kM_letters 8 nfM_letters), (arI rM_fresh kM_fresh 287 nfM_fresh), (arI rM_read kM_read 90 nfM_read), (arI rM_fresher kM_fresher 8 nfM_fresher)] [(kM_tape, .int), (kM_letters, .int), (kM_fresh, .int), (kM_read, .int), (kM_fresher, .int)] t) (va_A [(oc7 oM iM_thrown rM_tape iM_taped iM_size iM_at iM_end iM_token iM_whole iM_nameSize iM_fault iM_place iM_trouble rM_letters iM_failed iM_hasCourt rM_r rM_fresh rM_told rM_read rM_st rM_undone rM_kept iM_undos iM_images rM_fresher iM_fresherSize iM_scale iM_night rM_heardRow rM_cutRow iM_breaths iM_cutMany iM_allBreaths rM_trial rM_words iM_fewestBreaths iM_orderMany iM_orderSum iM_leastOrder rM_often iM_setMany iM_someOf iM_allOf iM_allWeight iM_enoughWeight iM_worthSum iM_firstRest iM_leastDrawn), (arI rM_tape kM_tape 900 fM_tape), (arI rM_letters kM_letters 8 fM_letters), (arI rM_fresh kM_fresh 287 fM_fresh), (arI rM_read kM_read 90 fM_read), (arI rM_fresher kM_fresher 8 fM_fresher)] sz)) 0 0 (va_A [(oc7 oM iM_thrown rM_tape iM_taped iM_size iM_at iM_end iM_token iM_whole iM_nameSize iM_fault iM_place iM_trouble rM_letters iM_failed iM_hasCourt rM_r rM_fresh rM_told rM_read rM_st rM_undone rM_kept iM_undos iM_images rM_fresher iM_fresherSize iM_scale iM_night rM_heardRow rM_cutRow iM_breaths iM_cutMany iM_allBreaths rM_trial rM_words iM_fewestBreaths iM_orderMany iM_orderSum iM_leastOrder rM_often iM_setMany iM_someOf iM_allOf iM_allWeight iM_enoughWeight iM_worthSum iM_firstRest iM_leastDrawn), (arI rM_tape kM_tape 900 fM_tape), (arI rM_letters kM_letters 8 fM_letters), (arI rM_fresh kM_fresh 287 fM_fresh), (arI rM_read kM_read 90 fM_read), (arI rM_fresher kM_fresher 8 fM_fresher)] sz) := by
  refine Met.ofW (cc := cX7_wordLine) (maxL := 2) (ret := none) pnX7 rfl ?_
  intro p e s m args below meth c s₁ B hml hv
  obtain ⟨rfl, hsz, hP, hK, hD0, hE⟩ := hv
  have hx := B.exec
  have hb := B.bytes
  have hr := B.returns
  have hts : ∀ w ∈ wG, w.before ([.ref oM] : List Value).toArray s = true := fun w h => atoms_spec (ws := Cond.code yX7_wordLine cX7_wordLine 2 none :: wG) B.pre w (List.mem_cons_of_mem _ h)
  have hown : s.vm.findClass RX7 = some m.cls := own_of B.named rfl
  have hlocks := B.notSynchronized
  subst hsz
  have hD := hD0.self (sz := s.heap.size)
  generalize hAe : va_A [(oc7 oM iM_thrown rM_tape iM_taped iM_size iM_at iM_end iM_token iM_whole iM_nameSize iM_fault iM_place iM_trouble rM_letters iM_failed iM_hasCourt rM_r rM_fresh rM_told rM_read rM_st rM_undone rM_kept iM_undos iM_images rM_fresher iM_fresherSize iM_scale iM_night rM_heardRow rM_cutRow iM_breaths iM_cutMany iM_allBreaths rM_trial rM_words iM_fewestBreaths iM_orderMany iM_orderSum iM_leastOrder rM_often iM_setMany iM_someOf iM_allOf iM_allWeight iM_enoughWeight iM_worthSum iM_firstRest iM_leastDrawn), (arI rM_tape kM_tape 900 fM_tape), (arI rM_letters kM_letters 8 fM_letters), (arI rM_fresh kM_fresh 287 fM_fresh), (arI rM_read kM_read 90 fM_read), (arI rM_fresher kM_fresher 8 fM_fresher)] s.heap.size = A at hD hE ⊢
  have hA : ∀ q : Nat, s.heap.size ≤ q → A q := fun q h => by rw [← hAe]; exact Or.inr h
  have hS : va_S A s.heap s.heap [] := va_S.rf
  have hl := lv_entry ([.ref oM]) (n := 2) (Nat.le_of_ble_eq_true rfl)
  rw [lg_entry_eq]
  generalize (lg_sl ([.ref oM]) ++ List.replicate (2 - (lg_sl ([.ref oM])).length) Slot.unset).toArray = ls at hl ⊢
  have hl : lv_has ls 2 [(0, .ref oM)] := hl
  have hG := PX7_wordLine_eq fM_tape iM_size iM_at iM_end iM_token iM_whole iM_nameSize iM_fault iM_place fM_letters iM_failed fM_fresh fM_read fM_fresher iM_fresherSize
  have pl_fM_fresh := r_P.lins
  refine lv_aload_n hx hb dX7_wordLine_0 rfl (lv_at hl 0 rfl) ?_
  refine va_get (D := (dC, dI)) (ci := 7) (v := .int iM_failed) (C := RX7) (T := TX7) (N := 48) hx hb hts inX7 hown hK hP 0 rfl rfl 13 (by decide) (hts _ wd_380) (fun _ h9 => h9) rfl dX7_wordLine_1 ?_
  refine lv_if_eq (tgt := 8) hx hb dX7_wordLine_4 (by decide) (fun c_5547 => ?_) (fun c_5547 => ?_)
  · skip
    have hG := hG.trans (if_pos c_5547)
    have gc_5547 := ti_eq c_5547 rfl kc_0
    have h_5548 : (fM_fresh 2).toInt ≤ 9 := hwl (om_02e9bb08 gc_5547)
    clear hwl
    refine lv_aload_n hx hb dX7_wordLine_8 rfl (lv_at hl 0 rfl) ?_
    have hFc := va_freeI hD hS hA
    refine va_callv (va_runV (As := []) (rest := []) ⟨hx, hb, hml, hown, hts⟩ (tX7_newName l dC dI _ oM iM_thrown rM_tape fM_tape kM_tape iM_taped iM_size iM_at iM_end iM_token iM_whole iM_nameSize iM_fault iM_place iM_trouble rM_letters fM_letters kM_letters iM_failed iM_hasCourt rM_r rM_fresh fM_fresh kM_fresh rM_told rM_read fM_read kM_read rM_st rM_undone rM_kept iM_undos iM_images rM_fresher fM_fresher kM_fresher iM_fresherSize iM_scale iM_night rM_heardRow rM_cutRow iM_breaths iM_cutMany iM_allBreaths rM_trial rM_words iM_fewestBreaths iM_orderMany iM_orderSum iM_leastOrder rM_often iM_setMany iM_someOf iM_allOf iM_allWeight iM_enoughWeight iM_worthSum iM_firstRest iM_leastDrawn b_iM_taped b_iM_size b_iM_end b_iM_nameSize b_iM_failed b_iM_hasCourt b_iM_undos b_iM_images b_iM_scale b_iM_breaths b_iM_cutMany r_T r_P) (cwV 0 hts (wd_V wd_462 wd_463 wd_464 wd_5 (wd_c wd_465)) rfl rfl rfl dv_yX7_newName_0 ⟨Nat.le_of_ble_eq_true rfl, Nat.le_of_ble_eq_true rfl⟩) ⟨Pw.fb, recvX7 hK hP (q0 := 0) rfl, fun U hU hW => Pw.to hP hD hK hE hS hFc hU hW⟩ rfl rfl hl.1 rfl (lv_room (Nat.le_of_ble_eq_true rfl)) dX7_wordLine_9 ⟨Nat.le_of_ble_eq_true rfl, Nat.le_of_ble_eq_true rfl⟩) hS (fun q _ h => hFc q h) hFc (fun u t H locs ht hvm hw hB hz1 hk1 hS => ?_)
    refine ex_11_8 hB (fun x_5549 x_5550 x_5551 x_5552 x_5553 x_5554 x_5555 x_5556 x_5557 f_5558 f_5559 b_x_5550 b_x_5553 b_x_5556 e_x_5549_0 e_x_5549_1 e_x_5549_2 e_x_5549_3 e_x_5549_4 hB => ?_)
    obtain ⟨hP, hD⟩ := Bw.goA (ws' := [(oc7 oM iM_thrown rM_tape iM_taped iM_size x_5549 x_5550 x_5551 x_5552 x_5553 x_5554 x_5555 iM_trouble rM_letters x_5556 iM_hasCourt rM_r rM_fresh rM_told rM_read rM_st rM_undone rM_kept iM_undos iM_images rM_fresher x_5557 iM_scale iM_night rM_heardRow rM_cutRow iM_breaths iM_cutMany iM_allBreaths rM_trial rM_words iM_fewestBreaths iM_orderMany iM_orderSum iM_leastOrder rM_often iM_setMany iM_someOf iM_allOf iM_allWeight iM_enoughWeight iM_worthSum iM_firstRest iM_leastDrawn), (arI rM_tape kM_tape 900 fM_tape), (arI rM_letters kM_letters 8 f_5558), (arI rM_fresh kM_fresh 287 fM_fresh), (arI rM_read kM_read 90 fM_read), (arI rM_fresher kM_fresher 8 f_5559)]) hB rfl ht hFc rfl
    clear hz1 hk1 hvm ht hB
    have hG := hG.trans (un11_eq e_x_5549_4)
    clear r_T
    refine lv_aload_n hx hb dX7_wordLine_12 rfl (lv_at hl 0 rfl) ?_
    obtain ⟨sa_5560, vsa_5560, nsa_5560, fsa_5560, hnsa_5560, hnesa_5560, hfesa_5560, hRsa_5560, hSsa_5560⟩ := hE.2.2.1 (231, "worth", [119, 111, 114, 116, 104]) (by decide)
    have hG := hG.trans (lt_eq hnesa_5560)
    have hG := hG.trans (lt_eq hfesa_5560)
    refine va_ldcS hx hb hown hRsa_5560 dX7_wordLine_13 ?_
    refine lv_iconst (v := 0) hx hb dX7_wordLine_15 (by decide) ?_
    refine lv_bipush (v := 99) hx hb dX7_wordLine_16 (by decide) ?_
    have hMs := ml_of hD [true, true, true, false, false, false] (wc := [(oc7 oM iM_thrown rM_tape iM_taped iM_size x_5549 x_5550 x_5551 x_5552 x_5553 x_5554 x_5555 iM_trouble rM_letters x_5556 iM_hasCourt rM_r rM_fresh rM_told rM_read rM_st rM_undone rM_kept iM_undos iM_images rM_fresher x_5557 iM_scale iM_night rM_heardRow rM_cutRow iM_breaths iM_cutMany iM_allBreaths rM_trial rM_words iM_fewestBreaths iM_orderMany iM_orderSum iM_leastOrder rM_often iM_setMany iM_someOf iM_allOf iM_allWeight iM_enoughWeight iM_worthSum iM_firstRest iM_leastDrawn), (arI rM_tape kM_tape 900 fM_tape), (arI rM_letters kM_letters 8 f_5558)]) rfl
    have hFc := va_freeM hD hS hA _ hMs
    refine va_calli (va_runV (As := [.ref sa_5560, .int 0, .int 99]) (rest := []) ⟨hx, hb, hml, hown, hts⟩ (tX7_after l dC dI _ oM iM_thrown rM_tape fM_tape kM_tape iM_taped iM_size x_5549 x_5550 x_5551 x_5552 x_5553 x_5554 x_5555 iM_trouble rM_letters f_5558 kM_letters x_5556 iM_hasCourt rM_r rM_fresh rM_told rM_read rM_st rM_undone rM_kept iM_undos iM_images rM_fresher x_5557 iM_scale iM_night rM_heardRow rM_cutRow iM_breaths iM_cutMany iM_allBreaths rM_trial rM_words iM_fewestBreaths iM_orderMany iM_orderSum iM_leastOrder rM_often iM_setMany iM_someOf iM_allOf iM_allWeight iM_enoughWeight iM_worthSum iM_firstRest iM_leastDrawn sa_5560 0 99 vsa_5560 nsa_5560 fsa_5560 b_iM_taped b_iM_size b_x_5550 b_x_5553 b_x_5556 b_iM_hasCourt b_iM_undos b_iM_images b_iM_scale b_iM_breaths b_iM_cutMany e_x_5549_1 (Nat.le_trans (Nat.le_of_eq hnesa_5560) (by decide)) (om_b0b40937 kc_0 kc_99)) (cwV 3 hts (wd_V wd_434 wd_435 wd_436 wd_5 (wd_c wd_437)) rfl rfl rfl dv_yX7_after_3 ⟨Nat.le_of_ble_eq_true rfl, Nat.le_of_ble_eq_true rfl⟩) ⟨Pq.fb, recvX7 hK hP (q0 := 0) rfl, fun U hU hW => Pq.to (hP.ms _ hMs) (hD.ms _ hMs) (hK.ms [true, true, false, false, false] rfl) hSsa_5560 hE hS hFc hU hW⟩ rfl rfl hl.1 rfl (lv_room (Nat.le_of_ble_eq_true rfl)) dX7_wordLine_18 ⟨Nat.le_of_ble_eq_true rfl, Nat.le_of_ble_eq_true rfl⟩) hS (fun q _ h => hFc q h) hFc (fun r u t H locs ht hvm hw hB hz1 hk1 hS => ?_)
    have hru9 := hw.2
    have hw := hw.1
    refine ex_9_8 hB (fun x_5561 x_5562 x_5563 x_5564 x_5565 x_5566 x_5567 x_5568 f_5569 b_x_5562 b_x_5565 b_x_5568 e_x_5561_0 e_x_5561_1 e_x_5561_2 e_x_5561_3 e_x_5561_4 hB => ?_)
    obtain ⟨hP, hD⟩ := Bw.goN (ws' := [(oc7 oM iM_thrown rM_tape iM_taped iM_size x_5561 x_5562 x_5563 x_5564 x_5565 x_5566 x_5567 iM_trouble rM_letters x_5568 iM_hasCourt rM_r rM_fresh rM_told rM_read rM_st rM_undone rM_kept iM_undos iM_images rM_fresher x_5557 iM_scale iM_night rM_heardRow rM_cutRow iM_breaths iM_cutMany iM_allBreaths rM_trial rM_words iM_fewestBreaths iM_orderMany iM_orderSum iM_leastOrder rM_often iM_setMany iM_someOf iM_allOf iM_allWeight iM_enoughWeight iM_worthSum iM_firstRest iM_leastDrawn), (arI rM_tape kM_tape 900 fM_tape), (arI rM_letters kM_letters 8 f_5569), (arI rM_fresh kM_fresh 287 fM_fresh), (arI rM_read kM_read 90 fM_read), (arI rM_fresher kM_fresher 8 f_5559)]) hB rfl ht hP hD _ hMs hk1 hFc rfl
    clear hz1 hk1 hvm ht hB hMs
    rw [← hru9] at e_x_5561_4
    obtain ⟨x_5570, rfl⟩ : ∃ z, z = r := ⟨_, rfl⟩
    have hG := hG.trans (un10_eq e_x_5561_4)
    have lx_5570 := hw.2
    have kl_0 := kc_0
    have kl_99 := kc_99
    clear e_x_5549_1
    clear e_x_5549_3
    refine lv_istore_n (lv' := [(1, .int x_5570), (0, .ref oM)]) hx hb dX7_wordLine_21 rfl hl (by decide) rfl (fun ls hl => ?_)
    refine lv_aload_n hx hb dX7_wordLine_22 rfl (lv_at hl 1 rfl) ?_
    refine va_get (D := (dC, dI)) (ci := 7) (v := .int x_5568) (C := RX7) (T := TX7) (N := 48) hx hb hts inX7 hown hK hP 0 rfl rfl 13 (by decide) (hts _ wd_380) (fun _ h9 => h9) rfl dX7_wordLine_23 ?_
    refine lv_if_eq (tgt := 30) hx hb dX7_wordLine_26 (by decide) (fun c_5571 => ?_) (fun c_5571 => ?_)
    · skip
      have hG := hG.trans (if_pos c_5571)
      have gc_5571 := ti_eq c_5571 rfl kc_0
      refine lv_aload_n hx hb dX7_wordLine_30 rfl (lv_at hl 1 rfl) ?_
      refine va_get (D := (dC, dI)) (ci := 7) (v := .ref rM_read) (C := RX7) (T := TX7) (N := 48) hx hb hts inX7 hown hK hP 0 rfl rfl 18 (by decide) (hts _ wd_158) (fun _ h9 => h9) rfl dX7_wordLine_31 ?_
      refine lv_bipush (v := 72) hx hb dX7_wordLine_34 (by decide) ?_
      refine lv_aload_n hx hb dX7_wordLine_36 rfl (lv_at hl 1 rfl) ?_
      refine va_get (D := (dC, dI)) (ci := 7) (v := .ref rM_fresh) (C := RX7) (T := TX7) (N := 48) hx hb hts inX7 hown hK hP 0 rfl rfl 16 (by decide) (hts _ wd_156) (fun _ h9 => h9) rfl dX7_wordLine_37 ?_
      refine lv_iconst (v := 1) hx hb dX7_wordLine_40 (by decide) ?_
      refine va_iald hx hb hK hP 3 2 rfl rfl (by unfold vp_in; decide) dX7_wordLine_41 ?_
      refine lv_topi (fun x_5572 ex_5572 => ?_)
      have hG := hG.trans (lt_eq ex_5572)
      have cx_5572 : (fM_fresh 1).toInt = x_5572.toInt := congrArg Int32.toInt (show fM_fresh 1 = x_5572 from ex_5572.symm)
      refine lv_iadd hx hb dX7_wordLine_42 ?_
      refine lv_topi (fun x_5573 ex_5573 => ?_)
      have hG := hG.trans (lt_eq ex_5573)
      have vx_5573 : x_5573.toInt = x_5572.toInt + 72 := om_2d0716db (ti_add ex_5573 kc_72 rfl (om_40b9b7fe pl_fM_fresh.2.2.2.2.1.1 pl_fM_fresh.2.2.2.2.1.2 cx_5572) (om_8e01d6bb pl_fM_fresh.2.1 pl_fM_fresh.2.2.1.2 pl_fM_fresh.2.2.2.2.2.1.2 cx_5572))
      refine lv_iload_n hx hb dX7_wordLine_43 rfl (lv_at hl 0 rfl) ?_
      refine va_iast hx hb hK hP hD hS 4 3 rfl rfl (ti_in vx_5573 (om_625b1eca pl_fM_fresh.2.2.2.2.1.1 pl_fM_fresh.2.2.2.2.1.2 cx_5572) (om_73529aab pl_fM_fresh.2.1 pl_fM_fresh.2.2.2.2.2.1.2 h_5548 cx_5572)) dX7_wordLine_44 (fun H locs hP hD hS => ?_)
      obtain ⟨f_5574, ef_5574⟩ : ∃ g : Nat → Int32, g = upd fM_read x_5573.toNatClampNeg x_5570 := ⟨_, rfl⟩
      rw [← ef_5574] at hP hD
      have hG := hG.trans (lt_eq ef_5574)
      obtain ⟨hP, hD⟩ := wl2 (ws' := [(oc7 oM iM_thrown rM_tape iM_taped iM_size x_5561 x_5562 x_5563 x_5564 x_5565 x_5566 x_5567 iM_trouble rM_letters x_5568 iM_hasCourt rM_r rM_fresh rM_told rM_read rM_st rM_undone rM_kept iM_undos iM_images rM_fresher x_5557 iM_scale iM_night rM_heardRow rM_cutRow iM_breaths iM_cutMany iM_allBreaths rM_trial rM_words iM_fewestBreaths iM_orderMany iM_orderSum iM_leastOrder rM_often iM_setMany iM_someOf iM_allOf iM_allWeight iM_enoughWeight iM_worthSum iM_firstRest iM_leastDrawn), (arI rM_tape kM_tape 900 fM_tape), (arI rM_letters kM_letters 8 f_5569), (arI rM_fresh kM_fresh 287 fM_fresh), (arI rM_read kM_read 90 f_5574), (arI rM_fresher kM_fresher 8 f_5559)]) hP hD rfl
      have pk_f_5574 : POk fM_fresh f_5574 := POk.wor r_P ef_5574 (by have q9 := ti_cl (x := x_5573) vx_5573 (om_625b1eca pl_fM_fresh.2.2.2.2.1.1 pl_fM_fresh.2.2.2.2.1.2 cx_5572); omega) (by omega) (by omega)
      refine lv_aload_n hx hb dX7_wordLine_45 rfl (lv_at hl 1 rfl) ?_
      refine lv_iconst (v := 0) hx hb dX7_wordLine_46 (by decide) ?_
      have hMs := ml_of hD [true, false, false, true, false, true] (wc := [(oc7 oM iM_thrown rM_tape iM_taped iM_size x_5561 x_5562 x_5563 x_5564 x_5565 x_5566 x_5567 iM_trouble rM_letters x_5568 iM_hasCourt rM_r rM_fresh rM_told rM_read rM_st rM_undone rM_kept iM_undos iM_images rM_fresher x_5557 iM_scale iM_night rM_heardRow rM_cutRow iM_breaths iM_cutMany iM_allBreaths rM_trial rM_words iM_fewestBreaths iM_orderMany iM_orderSum iM_leastOrder rM_often iM_setMany iM_someOf iM_allOf iM_allWeight iM_enoughWeight iM_worthSum iM_firstRest iM_leastDrawn), (arI rM_fresh kM_fresh 287 fM_fresh), (arI rM_fresher kM_fresher 8 f_5559)]) rfl
      have hFc := va_freeM hD hS hA _ hMs
      refine va_callv (va_runV (As := [.int 0]) (rest := []) ⟨hx, hb, hml, hown, hts⟩ (tX7_lay l dC dI _ oM iM_thrown rM_tape iM_taped iM_size x_5561 x_5562 x_5563 x_5564 x_5565 x_5566 x_5567 iM_trouble rM_letters x_5568 iM_hasCourt rM_r rM_fresh fM_fresh kM_fresh rM_told rM_read rM_st rM_undone rM_kept iM_undos iM_images rM_fresher f_5559 kM_fresher x_5557 iM_scale iM_night rM_heardRow rM_cutRow iM_breaths iM_cutMany iM_allBreaths rM_trial rM_words iM_fewestBreaths iM_orderMany iM_orderSum iM_leastOrder rM_often iM_setMany iM_someOf iM_allOf iM_allWeight iM_enoughWeight iM_worthSum iM_firstRest iM_leastDrawn 0 b_iM_taped b_iM_size b_x_5562 b_x_5565 b_x_5568 b_iM_hasCourt b_iM_undos b_iM_images b_iM_scale b_iM_breaths b_iM_cutMany e_x_5561_1 (om_02e9bb08 gc_5571) ⟨(om_18f2890d pl_fM_fresh.2.2.2.2.1.1 pl_fM_fresh.2.2.2.2.1.2), (om_24843d57 pl_fM_fresh.2.1 pl_fM_fresh.2.2.2.2.2.1.2 h_5548)⟩) (cwV 1 hts (wd_V wd_478 wd_479 wd_480 wd_5 (wd_c wd_481)) rfl rfl rfl dv_yX7_lay_1 ⟨Nat.le_of_ble_eq_true rfl, Nat.le_of_ble_eq_true rfl⟩) ⟨Pw.fb, recvX7 hK hP (q0 := 0) rfl, fun U hU hW => Pw.to (hP.ms _ hMs) (hD.ms _ hMs) (hK.ms [false, false, true, false, true] rfl) hE hS hFc hU hW⟩ rfl rfl hl.1 rfl (lv_room (Nat.le_of_ble_eq_true rfl)) dX7_wordLine_47 ⟨Nat.le_of_ble_eq_true rfl, Nat.le_of_ble_eq_true rfl⟩) hS (fun q _ h => hFc q h) hFc (fun u t H locs ht hvm hw hB hz1 hk1 hS => ?_)
      refine ex_1_2 hB (fun f_5575 e_f_5575_0 e_f_5575_1 hB => ?_)
      obtain ⟨hP, hD⟩ := Bw.goN (ws' := [(oc7 oM iM_thrown rM_tape iM_taped iM_size x_5561 x_5562 x_5563 x_5564 x_5565 x_5566 x_5567 iM_trouble rM_letters x_5568 iM_hasCourt rM_r rM_fresh rM_told rM_read rM_st rM_undone rM_kept iM_undos iM_images rM_fresher x_5557 iM_scale iM_night rM_heardRow rM_cutRow iM_breaths iM_cutMany iM_allBreaths rM_trial rM_words iM_fewestBreaths iM_orderMany iM_orderSum iM_leastOrder rM_often iM_setMany iM_someOf iM_allOf iM_allWeight iM_enoughWeight iM_worthSum iM_firstRest iM_leastDrawn), (arI rM_tape kM_tape 900 fM_tape), (arI rM_letters kM_letters 8 f_5569), (arI rM_fresh kM_fresh 287 f_5575), (arI rM_read kM_read 90 f_5574), (arI rM_fresher kM_fresher 8 f_5559)]) hB rfl ht hP hD _ hMs hk1 hFc rfl
      clear hz1 hk1 hvm ht hB hMs
      have o2_f_5575 : (f_5575 2).toInt = (fM_fresh 2).toInt := by rw [(e_f_5575_0).2.2.1 2 (by decide) (by decide) (Nat.ne_of_lt (Nat.lt_of_lt_of_le (by decide) (Nat.le_add_right 9 _)))]
      have o7_f_5575 : (f_5575 7).toInt = (fM_fresh 7).toInt := by rw [(e_f_5575_0).2.2.1 7 (by decide) (by decide) (Nat.ne_of_lt (Nat.lt_of_lt_of_le (by decide) (Nat.le_add_right 9 _)))]
      have o8_f_5575 : (f_5575 8).toInt = (fM_fresh 8).toInt := by rw [(e_f_5575_0).2.2.1 8 (by decide) (by decide) (Nat.ne_of_lt (Nat.lt_of_lt_of_le (by decide) (Nat.le_add_right 9 _)))]
      have hG := hG.trans (lt_eq e_f_5575_1.symm)
      refine lv_aload_n hx hb dX7_wordLine_50 rfl (lv_at hl 1 rfl) ?_
      refine va_get (D := (dC, dI)) (ci := 7) (v := .ref rM_fresh) (C := RX7) (T := TX7) (N := 48) hx hb hts inX7 hown hK hP 0 rfl rfl 16 (by decide) (hts _ wd_156) (fun _ h9 => h9) rfl dX7_wordLine_51 ?_
      refine lv_iconst (v := 2) hx hb dX7_wordLine_54 (by decide) ?_
      refine lv_dup2_11 hx hb dX7_wordLine_55 rfl rfl ?_
      refine va_iald hx hb hK hP 3 2 rfl rfl (by unfold vp_in; decide) dX7_wordLine_56 ?_
      refine lv_topi (fun x_5576 ex_5576 => ?_)
      have hG := hG.trans (lt_eq ex_5576)
      have cx_5576 : (f_5575 2).toInt = x_5576.toInt := congrArg Int32.toInt (show f_5575 2 = x_5576 from ex_5576.symm)
      refine lv_iconst (v := 1) hx hb dX7_wordLine_57 (by decide) ?_
      refine lv_iadd hx hb dX7_wordLine_58 ?_
      refine lv_topi (fun x_5577 ex_5577 => ?_)
      have hG := hG.trans (lt_eq ex_5577)
      have vx_5577 : x_5577.toInt = x_5576.toInt + 1 := ti_add ex_5577 rfl kc_1 (om_70e2a07e pl_fM_fresh.2.2.1.1 o2_f_5575 cx_5576) (om_faed9c11 pl_fM_fresh.2.2.1.2 o2_f_5575 cx_5576)
      refine va_iast hx hb hK hP hD hS 3 2 rfl rfl (by unfold vp_in; decide) dX7_wordLine_59 (fun H locs hP hD hS => ?_)
      obtain ⟨f_5578, ef_5578⟩ : ∃ g : Nat → Int32, g = upd f_5575 (2 : Int32).toNatClampNeg x_5577 := ⟨_, rfl⟩
      rw [← ef_5578] at hP hD
      have hG := hG.trans (lt_eq ef_5578)
      obtain ⟨hP, hD⟩ := wl2 (ws' := [(oc7 oM iM_thrown rM_tape iM_taped iM_size x_5561 x_5562 x_5563 x_5564 x_5565 x_5566 x_5567 iM_trouble rM_letters x_5568 iM_hasCourt rM_r rM_fresh rM_told rM_read rM_st rM_undone rM_kept iM_undos iM_images rM_fresher x_5557 iM_scale iM_night rM_heardRow rM_cutRow iM_breaths iM_cutMany iM_allBreaths rM_trial rM_words iM_fewestBreaths iM_orderMany iM_orderSum iM_leastOrder rM_often iM_setMany iM_someOf iM_allOf iM_allWeight iM_enoughWeight iM_worthSum iM_firstRest iM_leastDrawn), (arI rM_tape kM_tape 900 fM_tape), (arI rM_letters kM_letters 8 f_5569), (arI rM_fresh kM_fresh 287 f_5578), (arI rM_read kM_read 90 f_5574), (arI rM_fresher kM_fresher 8 f_5559)]) hP hD rfl
      have pk_f_5578 : POk f_5578 f_5574 := POk.word pk_f_5574 e_f_5575_0 kc_0 ef_5578 rfl (by have q := vx_5577; omega) (by omega)
      have pl_f_5578 := pk_f_5578.lins
      exact wq_v hx hb hr 0 trivial (fun t ht hW => ⟨x_5561, x_5562, x_5563, x_5564, x_5565, x_5566, x_5567, x_5568, x_5557, f_5569, f_5578, f_5574, f_5559, b_x_5562, b_x_5565, b_x_5568, (om_9348f5ae e_x_5549_0 e_x_5561_0), e_x_5561_1, (om_1fc3dec6 gc_5547 b_x_5568.1), (fun h9 => (om_7ed234da e_x_5549_0 (e_x_5561_3 ⟨(om_02e9bb08 gc_5571), h9.2⟩))), pk_f_5578, hG, Bw.to hP hD hK ht hW⟩) hS dX7_wordLine_60 hlocks
    · skip
      have hG := hG.trans (if_neg c_5571)
      have gc_5571 := ti_ne c_5571 rfl kc_0
      replace gc_5571 : (-1) * x_5568.toInt + 1 ≤ 0 := om_e3003f79 gc_5571 b_x_5568.1
      exact wq_v hx hb hr 0 trivial (fun t ht hW => ⟨x_5561, x_5562, x_5563, x_5564, x_5565, x_5566, x_5567, x_5568, x_5557, f_5569, fM_fresh, fM_read, f_5559, b_x_5562, b_x_5565, b_x_5568, (om_9348f5ae e_x_5549_0 e_x_5561_0), e_x_5561_1, (om_1fc3dec6 gc_5547 b_x_5568.1), (fun h9 => False.elim (om_a5fe015d gc_5571 h9.1)), r_P, hG, Bw.to hP hD hK ht hW⟩) hS dX7_wordLine_29 hlocks
  · skip
    have hG := hG.trans (if_neg c_5547)
    have gc_5547 := ti_ne c_5547 rfl kc_0
    replace gc_5547 : (-1) * iM_failed.toInt + 1 ≤ 0 := om_e3003f79 gc_5547 b_iM_failed.1
    clear hwl
    exact wq_v hx hb hr 0 trivial (fun t ht hW => ⟨iM_at, iM_end, iM_token, iM_whole, iM_nameSize, iM_fault, iM_place, iM_failed, iM_fresherSize, fM_letters, fM_fresh, fM_read, fM_fresher, ⟨b_iM_end.1, b_iM_end.2⟩, ⟨b_iM_nameSize.1, b_iM_nameSize.2⟩, ⟨b_iM_failed.1, b_iM_failed.2⟩, om_1cb5f934, r_T, om_1cb5f934, (fun h9 => False.elim (om_a5fe015d gc_5547 h9.1)), r_P, hG, Bw.to hP hD hK ht hW⟩) hS dX7_wordLine_7 hlocks
set_option maxHeartbeats 4000000 in
set_option maxRecDepth 100000 in
theorem tX7_throneLine (l : Launch) (dC : Nat → ClassId) (dI : Nat → Nat → Nat) (sz : Nat) (oM : Nat) (iM_thrown : Int32) (rM_tape : Nat) (fM_tape : Nat → Int32) (kM_tape : ClassId) (iM_taped : Int32) (iM_size : Int32) (iM_at : Int32) (iM_end : Int32) (iM_token : Int32) (iM_whole : Int32) (iM_nameSize : Int32) (iM_fault : Int32) (iM_place : Int32) (iM_trouble : Int32) (rM_letters : Nat) (fM_letters : Nat → Int32) (kM_letters : ClassId) (iM_failed : Int32) (iM_hasCourt : Int32) (rM_r : Nat) (rM_fresh : Nat) (fM_fresh : Nat → Int32) (kM_fresh : ClassId) (rM_told : Nat) (rM_read : Nat) (fM_read : Nat → Int32) (kM_read : ClassId) (rM_st : Nat) (rM_undone : Nat) (rM_kept : Nat) (iM_undos : Int32) (iM_images : Int32) (rM_fresher : Nat) (iM_fresherSize : Int32) (iM_scale : Int32) (iM_night : Int32) (rM_heardRow : Nat) (rM_cutRow : Nat) (iM_breaths : Int32) (iM_cutMany : Int32) (iM_allBreaths : Int32) (rM_trial : Nat) (rM_words : Nat) (iM_fewestBreaths : Int32) (iM_orderMany : Int32) (iM_orderSum : Int32) (iM_leastOrder : Int32) (rM_often : Nat) (iM_setMany : Int32) (iM_someOf : Int32) (iM_allOf : Int32) (iM_allWeight : Int64) (iM_enoughWeight : Int64) (iM_worthSum : Int64) (iM_firstRest : Int32) (iM_leastDrawn : Int32) (b_iM_taped : 0 ≤ iM_taped.toInt ∧ iM_taped.toInt ≤ 900) (b_iM_size : 0 ≤ iM_size.toInt ∧ iM_size.toInt ≤ 900) (b_iM_end : 0 ≤ iM_end.toInt ∧ iM_end.toInt ≤ 900) (b_iM_nameSize : 0 ≤ iM_nameSize.toInt ∧ iM_nameSize.toInt ≤ 900) (b_iM_failed : 0 ≤ iM_failed.toInt ∧ iM_failed.toInt ≤ 1) (b_iM_hasCourt : 0 ≤ iM_hasCourt.toInt ∧ iM_hasCourt.toInt ≤ 1) (b_iM_undos : 0 ≤ iM_undos.toInt ∧ iM_undos.toInt ≤ 16) (b_iM_images : 0 ≤ iM_images.toInt ∧ iM_images.toInt ≤ 3) (b_iM_scale : 1 ≤ iM_scale.toInt ∧ iM_scale.toInt ≤ 1296) (b_iM_breaths : 0 ≤ iM_breaths.toInt ∧ iM_breaths.toInt ≤ 399) (b_iM_cutMany : 0 ≤ iM_cutMany.toInt ∧ iM_cutMany.toInt ≤ 399) (r_T : ImpP (iM_token.toInt = 2) (iM_nameSize.toInt ≤ 8)) (r_P : POk fM_fresh fM_read)  : Met l yX7_throneLine (Cond.code yX7_throneLine cX7_throneLine 2 none :: wG) ({ frames := 7, cells := 0, slots := 0, locals := 175 }) (va_Pc [.ref oM] (Pw dC dI sz [(oc7 oM iM_thrown rM_tape iM_taped iM_size iM_at iM_end iM_token iM_whole iM_nameSize iM_fault iM_place iM_trouble rM_letters iM_failed iM_hasCourt rM_r rM_fresh rM_told rM_read rM_st rM_undone rM_kept iM_undos iM_images rM_fresher iM_fresherSize iM_scale iM_night rM_heardRow rM_cutRow iM_breaths iM_cutMany iM_allBreaths rM_trial rM_words iM_fewestBreaths iM_orderMany iM_orderSum iM_leastOrder rM_often iM_setMany iM_someOf iM_allOf iM_allWeight iM_enoughWeight iM_worthSum iM_firstRest iM_leastDrawn), (arI rM_tape kM_tape 900 fM_tape), (arI rM_letters kM_letters 8 fM_letters), (arI rM_fresh kM_fresh 287 fM_fresh), (arI rM_read kM_read 90 fM_read)] [(kM_tape, .int), (kM_letters, .int), (kM_fresh, .int), (kM_read, .int)])) (va_Qv (fun (_ : Nat) => True) (fun (_ : Nat) (t : State) => ∃ (niM_at : Int32) (niM_end : Int32) (niM_token : Int32) (niM_whole : Int32) (niM_nameSize : Int32) (niM_fault : Int32) (niM_place : Int32) (niM_failed : Int32) (nfM_letters : Nat → Int32) (nfM_fresh : Nat → Int32), (0 ≤ niM_end.toInt ∧ niM_end.toInt ≤ 900) ∧ (0 ≤ niM_nameSize.toInt ∧ niM_nameSize.toInt ≤ 900) ∧ (0 ≤ niM_failed.toInt ∧ niM_failed.toInt ≤ 1) ∧ (iM_end.toInt ≤ niM_end.toInt) ∧ (ImpP (niM_token.toInt = 2) (niM_nameSize.toInt ≤ 8)) ∧ (iM_failed.toInt ≤ niM_failed.toInt) ∧ (ImpP (niM_failed.toInt ≤ 0 ∧ niM_token.toInt = 59 ) (iM_end.toInt + 1 ≤ niM_end.toInt)) ∧ (POk nfM_fresh fM_read) ∧ (PX7_throneLine fM_tape iM_size iM_at iM_end iM_token iM_whole iM_nameSize iM_fault iM_place fM_letters iM_failed fM_fresh = (niM_at, niM_end, niM_token, niM_whole, niM_nameSize, niM_fault, niM_place, niM_failed, nfM_letters, nfM_fresh)) ∧ Bw dC dI (va_A [(oc7 oM iM_thrown rM_tape iM_taped iM_size iM_at iM_end iM_token iM_whole iM_nameSize iM_fault iM_place iM_trouble rM_letters iM_failed iM_hasCourt rM_r rM_fresh rM_told rM_read rM_st rM_undone rM_kept iM_undos iM_images rM_fresher iM_fresherSize iM_scale iM_night rM_heardRow rM_cutRow iM_breaths iM_cutMany iM_allBreaths rM_trial rM_words iM_fewestBreaths iM_orderMany iM_orderSum iM_leastOrder rM_often iM_setMany iM_someOf iM_allOf iM_allWeight iM_enoughWeight iM_worthSum iM_firstRest iM_leastDrawn), (arI rM_tape kM_tape 900 fM_tape), (arI rM_letters kM_letters 8 fM_letters), (arI rM_fresh kM_fresh 287 fM_fresh), (arI rM_read kM_read 90 fM_read)] sz) [(oc7 oM iM_thrown rM_tape iM_taped iM_size niM_at niM_end niM_token niM_whole niM_nameSize niM_fault niM_place iM_trouble rM_letters niM_failed iM_hasCourt rM_r rM_fresh rM_told rM_read rM_st rM_undone rM_kept iM_undos iM_images rM_fresher iM_fresherSize iM_scale iM_night rM_heardRow rM_cutRow iM_breaths iM_cutMany iM_allBreaths rM_trial rM_words iM_fewestBreaths iM_orderMany iM_orderSum iM_leastOrder rM_often iM_setMany iM_someOf iM_allOf iM_allWeight iM_enoughWeight iM_worthSum iM_firstRest iM_leastDrawn), (arI rM_tape kM_tape 900 fM_tape), (arI rM_letters kM_letters 8 nfM_letters), (arI rM_fresh kM_fresh 287 nfM_fresh), (arI rM_read kM_read 90 fM_read)] [(kM_tape, .int), (kM_letters, .int), (kM_fresh, .int), (kM_read, .int)] t) (va_A [(oc7 oM iM_thrown rM_tape iM_taped iM_size iM_at iM_end iM_token iM_whole iM_nameSize iM_fault iM_place iM_trouble rM_letters iM_failed iM_hasCourt rM_r rM_fresh rM_told rM_read rM_st rM_undone rM_kept iM_undos iM_images rM_fresher iM_fresherSize iM_scale iM_night rM_heardRow rM_cutRow iM_breaths iM_cutMany iM_allBreaths rM_trial rM_words iM_fewestBreaths iM_orderMany iM_orderSum iM_leastOrder rM_often iM_setMany iM_someOf iM_allOf iM_allWeight iM_enoughWeight iM_worthSum iM_firstRest iM_leastDrawn), (arI rM_tape kM_tape 900 fM_tape), (arI rM_letters kM_letters 8 fM_letters), (arI rM_fresh kM_fresh 287 fM_fresh), (arI rM_read kM_read 90 fM_read)] sz)) 0 0 (va_A [(oc7 oM iM_thrown rM_tape iM_taped iM_size iM_at iM_end iM_token iM_whole iM_nameSize iM_fault iM_place iM_trouble rM_letters iM_failed iM_hasCourt rM_r rM_fresh rM_told rM_read rM_st rM_undone rM_kept iM_undos iM_images rM_fresher iM_fresherSize iM_scale iM_night rM_heardRow rM_cutRow iM_breaths iM_cutMany iM_allBreaths rM_trial rM_words iM_fewestBreaths iM_orderMany iM_orderSum iM_leastOrder rM_often iM_setMany iM_someOf iM_allOf iM_allWeight iM_enoughWeight iM_worthSum iM_firstRest iM_leastDrawn), (arI rM_tape kM_tape 900 fM_tape), (arI rM_letters kM_letters 8 fM_letters), (arI rM_fresh kM_fresh 287 fM_fresh), (arI rM_read kM_read 90 fM_read)] sz) := by
  refine Met.ofW (cc := cX7_throneLine) (maxL := 2) (ret := none) pnX7 rfl ?_
  intro p e s m args below meth c s₁ B hml hv
  obtain ⟨rfl, hsz, hP, hK, hD0, hE⟩ := hv
  have hx := B.exec
  have hb := B.bytes
  have hr := B.returns
  have hts : ∀ w ∈ wG, w.before ([.ref oM] : List Value).toArray s = true := fun w h => atoms_spec (ws := Cond.code yX7_throneLine cX7_throneLine 2 none :: wG) B.pre w (List.mem_cons_of_mem _ h)
  have hown : s.vm.findClass RX7 = some m.cls := own_of B.named rfl
  have hlocks := B.notSynchronized
  subst hsz
  have hD := hD0.self (sz := s.heap.size)
  generalize hAe : va_A [(oc7 oM iM_thrown rM_tape iM_taped iM_size iM_at iM_end iM_token iM_whole iM_nameSize iM_fault iM_place iM_trouble rM_letters iM_failed iM_hasCourt rM_r rM_fresh rM_told rM_read rM_st rM_undone rM_kept iM_undos iM_images rM_fresher iM_fresherSize iM_scale iM_night rM_heardRow rM_cutRow iM_breaths iM_cutMany iM_allBreaths rM_trial rM_words iM_fewestBreaths iM_orderMany iM_orderSum iM_leastOrder rM_often iM_setMany iM_someOf iM_allOf iM_allWeight iM_enoughWeight iM_worthSum iM_firstRest iM_leastDrawn), (arI rM_tape kM_tape 900 fM_tape), (arI rM_letters kM_letters 8 fM_letters), (arI rM_fresh kM_fresh 287 fM_fresh), (arI rM_read kM_read 90 fM_read)] s.heap.size = A at hD hE ⊢
  have hA : ∀ q : Nat, s.heap.size ≤ q → A q := fun q h => by rw [← hAe]; exact Or.inr h
  have hS : va_S A s.heap s.heap [] := va_S.rf
  have hl := lv_entry ([.ref oM]) (n := 2) (Nat.le_of_ble_eq_true rfl)
  rw [lg_entry_eq]
  generalize (lg_sl ([.ref oM]) ++ List.replicate (2 - (lg_sl ([.ref oM])).length) Slot.unset).toArray = ls at hl ⊢
  have hl : lv_has ls 2 [(0, .ref oM)] := hl
  have hG := PX7_throneLine_eq fM_tape iM_size iM_at iM_end iM_token iM_whole iM_nameSize iM_fault iM_place fM_letters iM_failed fM_fresh
  have pl_fM_fresh := r_P.lins
  refine lv_aload_n hx hb dX7_throneLine_0 rfl (lv_at hl 0 rfl) ?_
  refine va_get (D := (dC, dI)) (ci := 7) (v := .ref rM_fresh) (C := RX7) (T := TX7) (N := 48) hx hb hts inX7 hown hK hP 0 rfl rfl 16 (by decide) (hts _ wd_156) (fun _ h9 => h9) rfl dX7_throneLine_1 ?_
  refine lv_bipush (v := 6) hx hb dX7_throneLine_4 (by decide) ?_
  refine va_iald hx hb hK hP 3 2 rfl rfl (by unfold vp_in; decide) dX7_throneLine_6 ?_
  refine lv_topi (fun x_5632 ex_5632 => ?_)
  have hG := hG.trans (lt_eq ex_5632)
  have cx_5632 : (fM_fresh 6).toInt = x_5632.toInt := congrArg Int32.toInt (show fM_fresh 6 = x_5632 from ex_5632.symm)
  refine lv_if_lt (tgt := 19) hx hb dX7_throneLine_7 (by decide) (fun c_5633 => ?_) (fun c_5633 => ?_)
  · skip
    have hG := hG.trans (if_pos c_5633)
    have gc_5633 := ti_lt c_5633 rfl kc_0
    refine lv_aload_n hx hb dX7_throneLine_19 rfl (lv_at hl 0 rfl) ?_
    obtain ⟨sa_5634, vsa_5634, nsa_5634, fsa_5634, hnsa_5634, hnesa_5634, hfesa_5634, hRsa_5634, hSsa_5634⟩ := hE.2.2.1 (144, "throne", [116, 104, 114, 111, 110, 101]) (by decide)
    have hG := hG.trans (lt_eq hnesa_5634)
    have hG := hG.trans (lt_eq hfesa_5634)
    refine va_ldcS hx hb hown hRsa_5634 dX7_throneLine_20 ?_
    refine lv_iconst (v := 1) hx hb dX7_throneLine_22 (by decide) ?_
    have hFc := va_freeI hD hS hA
    refine va_calli (va_runV (As := [.ref sa_5634, .int 1]) (rest := []) ⟨hx, hb, hml, hown, hts⟩ (tX7_begins l dC dI _ oM iM_thrown rM_tape fM_tape kM_tape iM_taped iM_size iM_at iM_end iM_token iM_whole iM_nameSize iM_fault iM_place iM_trouble rM_letters fM_letters kM_letters iM_failed iM_hasCourt rM_r rM_fresh fM_fresh kM_fresh rM_told rM_read fM_read kM_read rM_st rM_undone rM_kept iM_undos iM_images rM_fresher iM_fresherSize iM_scale iM_night rM_heardRow rM_cutRow iM_breaths iM_cutMany iM_allBreaths rM_trial rM_words iM_fewestBreaths iM_orderMany iM_orderSum iM_leastOrder rM_often iM_setMany iM_someOf iM_allOf iM_allWeight iM_enoughWeight iM_worthSum iM_firstRest iM_leastDrawn sa_5634 1 vsa_5634 nsa_5634 fsa_5634 b_iM_taped b_iM_size b_iM_end b_iM_nameSize b_iM_failed b_iM_hasCourt b_iM_undos b_iM_images b_iM_scale b_iM_breaths b_iM_cutMany r_T r_P (Nat.le_trans (Nat.le_of_eq hnesa_5634) (by decide)) ⟨(om_1b364b1c kc_1), (om_02032f93 kc_1)⟩) (cwV 2 hts (wd_V wd_450 wd_451 wd_452 wd_5 (wd_c wd_453)) rfl rfl rfl dv_yX7_begins_2 ⟨Nat.le_of_ble_eq_true rfl, Nat.le_of_ble_eq_true rfl⟩) ⟨Pq.fb, recvX7 hK hP (q0 := 0) rfl, fun U hU hW => Pq.to hP hD hK hSsa_5634 hE hS hFc hU hW⟩ rfl rfl hl.1 rfl (lv_room (Nat.le_of_ble_eq_true rfl)) dX7_throneLine_23 ⟨Nat.le_of_ble_eq_true rfl, Nat.le_of_ble_eq_true rfl⟩) hS (fun q _ h => hFc q h) hFc (fun r u t H locs ht hvm hw hB hz1 hk1 hS => ?_)
    have hru9 := hw.2
    have hw := hw.1
    refine ex_9_9 hB (fun x_5635 x_5636 x_5637 x_5638 x_5639 x_5640 x_5641 x_5642 f_5643 b_x_5636 b_x_5639 b_x_5642 e_x_5635_0 e_x_5635_1 e_x_5635_2 e_x_5635_3 e_x_5635_4 e_x_5635_5 hB => ?_)
    obtain ⟨hP, hD⟩ := Bw.goA (ws' := [(oc7 oM iM_thrown rM_tape iM_taped iM_size x_5635 x_5636 x_5637 x_5638 x_5639 x_5640 x_5641 iM_trouble rM_letters x_5642 iM_hasCourt rM_r rM_fresh rM_told rM_read rM_st rM_undone rM_kept iM_undos iM_images rM_fresher iM_fresherSize iM_scale iM_night rM_heardRow rM_cutRow iM_breaths iM_cutMany iM_allBreaths rM_trial rM_words iM_fewestBreaths iM_orderMany iM_orderSum iM_leastOrder rM_often iM_setMany iM_someOf iM_allOf iM_allWeight iM_enoughWeight iM_worthSum iM_firstRest iM_leastDrawn), (arI rM_tape kM_tape 900 fM_tape), (arI rM_letters kM_letters 8 f_5643), (arI rM_fresh kM_fresh 287 fM_fresh), (arI rM_read kM_read 90 fM_read)]) hB rfl ht hFc rfl
    clear hz1 hk1 hvm ht hB
    rw [← hru9] at e_x_5635_5
    obtain ⟨x_5644, rfl⟩ : ∃ z, z = r := ⟨_, rfl⟩
    have hG := hG.trans (un10_eq e_x_5635_5)
    have bx_5644 := hw.1
    have dx_5644 := bz_tb bx_5644
    have lx_5644 := hw.2
    clear r_T
    refine lv_pop hx hb dX7_throneLine_26 rfl ?_
    refine lv_aload_n hx hb dX7_throneLine_27 rfl (lv_at hl 0 rfl) ?_
    have hMs := ml_of hD [true, false, true, true, true] (wc := [(oc7 oM iM_thrown rM_tape iM_taped iM_size x_5635 x_5636 x_5637 x_5638 x_5639 x_5640 x_5641 iM_trouble rM_letters x_5642 iM_hasCourt rM_r rM_fresh rM_told rM_read rM_st rM_undone rM_kept iM_undos iM_images rM_fresher iM_fresherSize iM_scale iM_night rM_heardRow rM_cutRow iM_breaths iM_cutMany iM_allBreaths rM_trial rM_words iM_fewestBreaths iM_orderMany iM_orderSum iM_leastOrder rM_often iM_setMany iM_someOf iM_allOf iM_allWeight iM_enoughWeight iM_worthSum iM_firstRest iM_leastDrawn), (arI rM_letters kM_letters 8 f_5643), (arI rM_fresh kM_fresh 287 fM_fresh), (arI rM_read kM_read 90 fM_read)]) rfl
    have hFc := va_freeM hD hS hA _ hMs
    refine va_calli (va_runV (As := []) (rest := []) ⟨hx, hb, hml, hown, hts⟩ (tX7_nodeHere l dC dI _ oM iM_thrown rM_tape iM_taped iM_size x_5635 x_5636 x_5637 x_5638 x_5639 x_5640 x_5641 iM_trouble rM_letters f_5643 kM_letters x_5642 iM_hasCourt rM_r rM_fresh fM_fresh kM_fresh rM_told rM_read fM_read kM_read rM_st rM_undone rM_kept iM_undos iM_images rM_fresher iM_fresherSize iM_scale iM_night rM_heardRow rM_cutRow iM_breaths iM_cutMany iM_allBreaths rM_trial rM_words iM_fewestBreaths iM_orderMany iM_orderSum iM_leastOrder rM_often iM_setMany iM_someOf iM_allOf iM_allWeight iM_enoughWeight iM_worthSum iM_firstRest iM_leastDrawn b_iM_taped b_iM_size b_x_5636 b_x_5639 b_x_5642 b_iM_hasCourt b_iM_undos b_iM_images b_iM_scale b_iM_breaths b_iM_cutMany e_x_5635_1 r_P) (cwV 0 hts (wd_V wd_486 wd_487 wd_488 wd_5 (wd_c wd_489)) rfl rfl rfl dv_yX7_nodeHere_0 ⟨Nat.le_of_ble_eq_true rfl, Nat.le_of_ble_eq_true rfl⟩) ⟨Pw.fb, recvX7 hK hP (q0 := 0) rfl, fun U hU hW => Pw.to (hP.ms _ hMs) (hD.ms _ hMs) (hK.ms [false, true, true, true] rfl) hE hS hFc hU hW⟩ rfl rfl hl.1 rfl (lv_room (Nat.le_of_ble_eq_true rfl)) dX7_throneLine_28 ⟨Nat.le_of_ble_eq_true rfl, Nat.le_of_ble_eq_true rfl⟩) hS (fun q _ h => hFc q h) hFc (fun r u t H locs ht hvm hw hB hz1 hk1 hS => ?_)
    have hru9 := hw.2
    have hw := hw.1
    refine ex_3_4 hB (fun x_5645 x_5646 x_5647 b_x_5647 e_x_5645_0 e_x_5645_1 e_x_5645_2 hB => ?_)
    obtain ⟨hP, hD⟩ := Bw.goN (ws' := [(oc7 oM iM_thrown rM_tape iM_taped iM_size x_5635 x_5636 x_5637 x_5638 x_5639 x_5645 x_5646 iM_trouble rM_letters x_5647 iM_hasCourt rM_r rM_fresh rM_told rM_read rM_st rM_undone rM_kept iM_undos iM_images rM_fresher iM_fresherSize iM_scale iM_night rM_heardRow rM_cutRow iM_breaths iM_cutMany iM_allBreaths rM_trial rM_words iM_fewestBreaths iM_orderMany iM_orderSum iM_leastOrder rM_often iM_setMany iM_someOf iM_allOf iM_allWeight iM_enoughWeight iM_worthSum iM_firstRest iM_leastDrawn), (arI rM_tape kM_tape 900 fM_tape), (arI rM_letters kM_letters 8 f_5643), (arI rM_fresh kM_fresh 287 fM_fresh), (arI rM_read kM_read 90 fM_read)]) hB rfl ht hP hD _ hMs hk1 hFc rfl
    clear hz1 hk1 hvm ht hB hMs
    rw [← hru9] at e_x_5645_2
    obtain ⟨x_5648, rfl⟩ : ∃ z, z = r := ⟨_, rfl⟩
    have hG := hG.trans (un4_eq e_x_5645_2)
    have lx_5648 := hw.2
    have ux_5648 := hw.2
    refine lv_istore_n (lv' := [(1, .int x_5648), (0, .ref oM)]) hx hb dX7_throneLine_31 rfl hl (by decide) rfl (fun ls hl => ?_)
    refine lv_aload_n hx hb dX7_throneLine_32 rfl (lv_at hl 1 rfl) ?_
    have hMs := ml_of hD [true, true, true, false, false] (wc := [(oc7 oM iM_thrown rM_tape iM_taped iM_size x_5635 x_5636 x_5637 x_5638 x_5639 x_5645 x_5646 iM_trouble rM_letters x_5647 iM_hasCourt rM_r rM_fresh rM_told rM_read rM_st rM_undone rM_kept iM_undos iM_images rM_fresher iM_fresherSize iM_scale iM_night rM_heardRow rM_cutRow iM_breaths iM_cutMany iM_allBreaths rM_trial rM_words iM_fewestBreaths iM_orderMany iM_orderSum iM_leastOrder rM_often iM_setMany iM_someOf iM_allOf iM_allWeight iM_enoughWeight iM_worthSum iM_firstRest iM_leastDrawn), (arI rM_tape kM_tape 900 fM_tape), (arI rM_letters kM_letters 8 f_5643)]) rfl
    have hFc := va_freeM hD hS hA _ hMs
    refine va_callv (va_runV (As := []) (rest := []) ⟨hx, hb, hml, hown, hts⟩ (tX7_pass l dC dI _ oM iM_thrown rM_tape fM_tape kM_tape iM_taped iM_size x_5635 x_5636 x_5637 x_5638 x_5639 x_5645 x_5646 iM_trouble rM_letters f_5643 kM_letters x_5647 iM_hasCourt rM_r rM_fresh rM_told rM_read rM_st rM_undone rM_kept iM_undos iM_images rM_fresher iM_fresherSize iM_scale iM_night rM_heardRow rM_cutRow iM_breaths iM_cutMany iM_allBreaths rM_trial rM_words iM_fewestBreaths iM_orderMany iM_orderSum iM_leastOrder rM_often iM_setMany iM_someOf iM_allOf iM_allWeight iM_enoughWeight iM_worthSum iM_firstRest iM_leastDrawn b_iM_taped b_iM_size b_x_5636 b_x_5639 b_x_5647 b_iM_hasCourt b_iM_undos b_iM_images b_iM_scale b_iM_breaths b_iM_cutMany e_x_5635_1) (cwV 0 hts (wd_V wd_454 wd_455 wd_456 wd_5 (wd_c wd_457)) rfl rfl rfl dv_yX7_pass_0 ⟨Nat.le_of_ble_eq_true rfl, Nat.le_of_ble_eq_true rfl⟩) ⟨Pw.fb, recvX7 hK hP (q0 := 0) rfl, fun U hU hW => Pw.to (hP.ms _ hMs) (hD.ms _ hMs) (hK.ms [true, true, false, false] rfl) hE hS hFc hU hW⟩ rfl rfl hl.1 rfl (lv_room (Nat.le_of_ble_eq_true rfl)) dX7_throneLine_33 ⟨Nat.le_of_ble_eq_true rfl, Nat.le_of_ble_eq_true rfl⟩) hS (fun q _ h => hFc q h) hFc (fun u t H locs ht hvm hw hB hz1 hk1 hS => ?_)
    refine ex_6_6 hB (fun x_5649 x_5650 x_5651 x_5652 x_5653 f_5654 b_x_5650 b_x_5653 e_x_5649_0 e_x_5649_1 e_x_5649_2 e_x_5649_3 hB => ?_)
    obtain ⟨hP, hD⟩ := Bw.goN (ws' := [(oc7 oM iM_thrown rM_tape iM_taped iM_size x_5649 x_5650 x_5651 x_5652 x_5653 x_5645 x_5646 iM_trouble rM_letters x_5647 iM_hasCourt rM_r rM_fresh rM_told rM_read rM_st rM_undone rM_kept iM_undos iM_images rM_fresher iM_fresherSize iM_scale iM_night rM_heardRow rM_cutRow iM_breaths iM_cutMany iM_allBreaths rM_trial rM_words iM_fewestBreaths iM_orderMany iM_orderSum iM_leastOrder rM_often iM_setMany iM_someOf iM_allOf iM_allWeight iM_enoughWeight iM_worthSum iM_firstRest iM_leastDrawn), (arI rM_tape kM_tape 900 fM_tape), (arI rM_letters kM_letters 8 f_5654), (arI rM_fresh kM_fresh 287 fM_fresh), (arI rM_read kM_read 90 fM_read)]) hB rfl ht hP hD _ hMs hk1 hFc rfl
    clear hz1 hk1 hvm ht hB hMs
    have hG := hG.trans (un6_eq e_x_5649_3)
    clear e_x_5635_1
    clear e_x_5635_4
    refine lv_aload_n hx hb dX7_throneLine_36 rfl (lv_at hl 1 rfl) ?_
    refine va_get (D := (dC, dI)) (ci := 7) (v := .int x_5647) (C := RX7) (T := TX7) (N := 48) hx hb hts inX7 hown hK hP 0 rfl rfl 13 (by decide) (hts _ wd_380) (fun _ h9 => h9) rfl dX7_throneLine_37 ?_
    refine lv_if_ne (tgt := 51) hx hb dX7_throneLine_40 (by decide) (fun c_5655 => ?_) (fun c_5655 => ?_)
    · skip
      have hG := hG.trans (if_neg c_5655)
      have gc_5655 := ti_ne c_5655 rfl kc_0
      replace gc_5655 : (-1) * x_5647.toInt + 1 ≤ 0 := om_e3003f79 gc_5655 b_x_5647.1
      clear e_x_5645_1
      exact wq_v hx hb hr 0 trivial (fun t ht hW => ⟨x_5649, x_5650, x_5651, x_5652, x_5653, x_5645, x_5646, x_5647, f_5654, fM_fresh, b_x_5650, b_x_5653, b_x_5647, (om_9348f5ae e_x_5635_0 e_x_5649_0), e_x_5649_1, (om_9348f5ae e_x_5635_2 e_x_5645_0), (fun h9 => False.elim (om_a5fe015d gc_5655 h9.1)), r_P, hG, Bw.to hP hD hK ht hW⟩) hS dX7_throneLine_51 hlocks
    · skip
      have hG := hG.trans (if_pos c_5655)
      have gc_5655 := ti_eq c_5655 rfl kc_0
      have h_5656 : 1 ≤ (fM_fresh 1).toInt := e_x_5645_1 (om_02e9bb08 gc_5655)
      clear e_x_5645_1
      have h_5657 : x_5648.toInt < (fM_fresh 1).toInt := lx_5648.2.1 h_5656
      refine lv_aload_n hx hb dX7_throneLine_43 rfl (lv_at hl 1 rfl) ?_
      refine va_get (D := (dC, dI)) (ci := 7) (v := .ref rM_fresh) (C := RX7) (T := TX7) (N := 48) hx hb hts inX7 hown hK hP 0 rfl rfl 16 (by decide) (hts _ wd_156) (fun _ h9 => h9) rfl dX7_throneLine_44 ?_
      refine lv_bipush (v := 6) hx hb dX7_throneLine_47 (by decide) ?_
      refine lv_iload_n hx hb dX7_throneLine_49 rfl (lv_at hl 0 rfl) ?_
      refine va_iast hx hb hK hP hD hS 3 2 rfl rfl (by unfold vp_in; decide) dX7_throneLine_50 (fun H locs hP hD hS => ?_)
      obtain ⟨f_5658, ef_5658⟩ : ∃ g : Nat → Int32, g = upd fM_fresh (6 : Int32).toNatClampNeg x_5648 := ⟨_, rfl⟩
      rw [← ef_5658] at hP hD
      have hG := hG.trans (lt_eq ef_5658)
      obtain ⟨hP, hD⟩ := wl2 (ws' := [(oc7 oM iM_thrown rM_tape iM_taped iM_size x_5649 x_5650 x_5651 x_5652 x_5653 x_5645 x_5646 iM_trouble rM_letters x_5647 iM_hasCourt rM_r rM_fresh rM_told rM_read rM_st rM_undone rM_kept iM_undos iM_images rM_fresher iM_fresherSize iM_scale iM_night rM_heardRow rM_cutRow iM_breaths iM_cutMany iM_allBreaths rM_trial rM_words iM_fewestBreaths iM_orderMany iM_orderSum iM_leastOrder rM_often iM_setMany iM_someOf iM_allOf iM_allWeight iM_enoughWeight iM_worthSum iM_firstRest iM_leastDrawn), (arI rM_tape kM_tape 900 fM_tape), (arI rM_letters kM_letters 8 f_5654), (arI rM_fresh kM_fresh 287 f_5658), (arI rM_read kM_read 90 fM_read)]) hP hD rfl
      have pk_f_5658 : POk f_5658 fM_read := POk.put r_P ef_5658 (Or.inr (Or.inr (Or.inr (Or.inl (by have q9 : ((6 : Int32).toNatClampNeg : Nat) = 6 := rfl; omega)))))
      have pl_f_5658 := pk_f_5658.lins
      exact wq_v hx hb hr 0 trivial (fun t ht hW => ⟨x_5649, x_5650, x_5651, x_5652, x_5653, x_5645, x_5646, x_5647, f_5654, f_5658, b_x_5650, b_x_5653, b_x_5647, (om_9348f5ae e_x_5635_0 e_x_5649_0), e_x_5649_1, (om_9348f5ae e_x_5635_2 e_x_5645_0), (fun h9 => (om_7ed234da e_x_5635_0 (e_x_5649_2 ⟨(om_02e9bb08 gc_5655), h9.2⟩))), pk_f_5658, hG, Bw.to hP hD hK ht hW⟩) hS dX7_throneLine_51 hlocks
  · skip
    have hG := hG.trans (if_neg c_5633)
    have gc_5633 := ti_nlt c_5633 rfl kc_0
    refine lv_aload_n hx hb dX7_throneLine_10 rfl (lv_at hl 0 rfl) ?_
    refine lv_iconst (v := 3) hx hb dX7_throneLine_11 (by decide) ?_
    refine lv_aload_n hx hb dX7_throneLine_12 rfl (lv_at hl 0 rfl) ?_
    refine va_get (D := (dC, dI)) (ci := 7) (v := .int iM_at) (C := RX7) (T := TX7) (N := 48) hx hb hts inX7 hown hK hP 0 rfl rfl 4 (by decide) (hts _ wd_384) (fun _ h9 => h9) rfl dX7_throneLine_13 ?_
    have hMs := ml_of hD [true, false, false, false, false] (wc := [(oc7 oM iM_thrown rM_tape iM_taped iM_size iM_at iM_end iM_token iM_whole iM_nameSize iM_fault iM_place iM_trouble rM_letters iM_failed iM_hasCourt rM_r rM_fresh rM_told rM_read rM_st rM_undone rM_kept iM_undos iM_images rM_fresher iM_fresherSize iM_scale iM_night rM_heardRow rM_cutRow iM_breaths iM_cutMany iM_allBreaths rM_trial rM_words iM_fewestBreaths iM_orderMany iM_orderSum iM_leastOrder rM_often iM_setMany iM_someOf iM_allOf iM_allWeight iM_enoughWeight iM_worthSum iM_firstRest iM_leastDrawn)]) rfl
    have hFc := va_freeM hD hS hA _ hMs
    refine va_callv (va_runV (As := [.int 3, .int iM_at]) (rest := []) ⟨hx, hb, hml, hown, hts⟩ (tX7_wrong l dC dI _ oM iM_thrown rM_tape iM_taped iM_size iM_at iM_end iM_token iM_whole iM_nameSize iM_fault iM_place iM_trouble rM_letters iM_failed iM_hasCourt rM_r rM_fresh rM_told rM_read rM_st rM_undone rM_kept iM_undos iM_images rM_fresher iM_fresherSize iM_scale iM_night rM_heardRow rM_cutRow iM_breaths iM_cutMany iM_allBreaths rM_trial rM_words iM_fewestBreaths iM_orderMany iM_orderSum iM_leastOrder rM_often iM_setMany iM_someOf iM_allOf iM_allWeight iM_enoughWeight iM_worthSum iM_firstRest iM_leastDrawn 3 iM_at b_iM_taped b_iM_size b_iM_end b_iM_nameSize b_iM_failed b_iM_hasCourt b_iM_undos b_iM_images b_iM_scale b_iM_breaths b_iM_cutMany r_T) (cwV 2 hts (wd_V wd_430 wd_431 wd_432 wd_5 (wd_c wd_433)) rfl rfl rfl dv_yX7_wrong_2 ⟨Nat.le_of_ble_eq_true rfl, Nat.le_of_ble_eq_true rfl⟩) ⟨Pw.fb, recvX7 hK hP (q0 := 0) rfl, fun U hU hW => Pw.to (hP.ms _ hMs) (hD.ms _ hMs) (hK.ms [false, false, false, false] rfl) hE hS hFc hU hW⟩ rfl rfl hl.1 rfl (lv_room (Nat.le_of_ble_eq_true rfl)) dX7_throneLine_16 ⟨Nat.le_of_ble_eq_true rfl, Nat.le_of_ble_eq_true rfl⟩) hS (fun q _ h => hFc q h) hFc (fun u t H locs ht hvm hw hB hz1 hk1 hS => ?_)
    refine ex_3_3 hB (fun x_5659 x_5660 x_5661 b_x_5661 e_x_5659_0 e_x_5659_1 hB => ?_)
    obtain ⟨hP, hD⟩ := Bw.goN (ws' := [(oc7 oM iM_thrown rM_tape iM_taped iM_size iM_at iM_end iM_token iM_whole iM_nameSize x_5659 x_5660 iM_trouble rM_letters x_5661 iM_hasCourt rM_r rM_fresh rM_told rM_read rM_st rM_undone rM_kept iM_undos iM_images rM_fresher iM_fresherSize iM_scale iM_night rM_heardRow rM_cutRow iM_breaths iM_cutMany iM_allBreaths rM_trial rM_words iM_fewestBreaths iM_orderMany iM_orderSum iM_leastOrder rM_often iM_setMany iM_someOf iM_allOf iM_allWeight iM_enoughWeight iM_worthSum iM_firstRest iM_leastDrawn), (arI rM_tape kM_tape 900 fM_tape), (arI rM_letters kM_letters 8 fM_letters), (arI rM_fresh kM_fresh 287 fM_fresh), (arI rM_read kM_read 90 fM_read)]) hB rfl ht hP hD _ hMs hk1 hFc rfl
    clear hz1 hk1 hvm ht hB hMs
    have hG := hG.trans (un3_eq e_x_5659_1)
    refine lv_aload_n hx hb dX7_throneLine_19 rfl (lv_at hl 0 rfl) ?_
    obtain ⟨sa_5662, vsa_5662, nsa_5662, fsa_5662, hnsa_5662, hnesa_5662, hfesa_5662, hRsa_5662, hSsa_5662⟩ := hE.2.2.1 (144, "throne", [116, 104, 114, 111, 110, 101]) (by decide)
    have hG := hG.trans (lt_eq hnesa_5662)
    have hG := hG.trans (lt_eq hfesa_5662)
    refine va_ldcS hx hb hown hRsa_5662 dX7_throneLine_20 ?_
    refine lv_iconst (v := 1) hx hb dX7_throneLine_22 (by decide) ?_
    have hFc := va_freeI hD hS hA
    refine va_calli (va_runV (As := [.ref sa_5662, .int 1]) (rest := []) ⟨hx, hb, hml, hown, hts⟩ (tX7_begins l dC dI _ oM iM_thrown rM_tape fM_tape kM_tape iM_taped iM_size iM_at iM_end iM_token iM_whole iM_nameSize x_5659 x_5660 iM_trouble rM_letters fM_letters kM_letters x_5661 iM_hasCourt rM_r rM_fresh fM_fresh kM_fresh rM_told rM_read fM_read kM_read rM_st rM_undone rM_kept iM_undos iM_images rM_fresher iM_fresherSize iM_scale iM_night rM_heardRow rM_cutRow iM_breaths iM_cutMany iM_allBreaths rM_trial rM_words iM_fewestBreaths iM_orderMany iM_orderSum iM_leastOrder rM_often iM_setMany iM_someOf iM_allOf iM_allWeight iM_enoughWeight iM_worthSum iM_firstRest iM_leastDrawn sa_5662 1 vsa_5662 nsa_5662 fsa_5662 b_iM_taped b_iM_size b_iM_end b_iM_nameSize b_x_5661 b_iM_hasCourt b_iM_undos b_iM_images b_iM_scale b_iM_breaths b_iM_cutMany r_T r_P (Nat.le_trans (Nat.le_of_eq hnesa_5662) (by decide)) ⟨(om_1b364b1c kc_1), (om_02032f93 kc_1)⟩) (cwV 2 hts (wd_V wd_450 wd_451 wd_452 wd_5 (wd_c wd_453)) rfl rfl rfl dv_yX7_begins_2 ⟨Nat.le_of_ble_eq_true rfl, Nat.le_of_ble_eq_true rfl⟩) ⟨Pq.fb, recvX7 hK hP (q0 := 0) rfl, fun U hU hW => Pq.to hP hD hK hSsa_5662 hE hS hFc hU hW⟩ rfl rfl hl.1 rfl (lv_room (Nat.le_of_ble_eq_true rfl)) dX7_throneLine_23 ⟨Nat.le_of_ble_eq_true rfl, Nat.le_of_ble_eq_true rfl⟩) hS (fun q _ h => hFc q h) hFc (fun r u t H locs ht hvm hw hB hz1 hk1 hS => ?_)
    have hru9 := hw.2
    have hw := hw.1
    refine ex_9_9 hB (fun x_5663 x_5664 x_5665 x_5666 x_5667 x_5668 x_5669 x_5670 f_5671 b_x_5664 b_x_5667 b_x_5670 e_x_5663_0 e_x_5663_1 e_x_5663_2 e_x_5663_3 e_x_5663_4 e_x_5663_5 hB => ?_)
    obtain ⟨hP, hD⟩ := Bw.goA (ws' := [(oc7 oM iM_thrown rM_tape iM_taped iM_size x_5663 x_5664 x_5665 x_5666 x_5667 x_5668 x_5669 iM_trouble rM_letters x_5670 iM_hasCourt rM_r rM_fresh rM_told rM_read rM_st rM_undone rM_kept iM_undos iM_images rM_fresher iM_fresherSize iM_scale iM_night rM_heardRow rM_cutRow iM_breaths iM_cutMany iM_allBreaths rM_trial rM_words iM_fewestBreaths iM_orderMany iM_orderSum iM_leastOrder rM_often iM_setMany iM_someOf iM_allOf iM_allWeight iM_enoughWeight iM_worthSum iM_firstRest iM_leastDrawn), (arI rM_tape kM_tape 900 fM_tape), (arI rM_letters kM_letters 8 f_5671), (arI rM_fresh kM_fresh 287 fM_fresh), (arI rM_read kM_read 90 fM_read)]) hB rfl ht hFc rfl
    clear hz1 hk1 hvm ht hB
    rw [← hru9] at e_x_5663_5
    obtain ⟨x_5672, rfl⟩ : ∃ z, z = r := ⟨_, rfl⟩
    have hG := hG.trans (un10_eq e_x_5663_5)
    have bx_5672 := hw.1
    have dx_5672 := bz_tb bx_5672
    have lx_5672 := hw.2
    clear r_T
    refine lv_pop hx hb dX7_throneLine_26 rfl ?_
    refine lv_aload_n hx hb dX7_throneLine_27 rfl (lv_at hl 0 rfl) ?_
    have hMs := ml_of hD [true, false, true, true, true] (wc := [(oc7 oM iM_thrown rM_tape iM_taped iM_size x_5663 x_5664 x_5665 x_5666 x_5667 x_5668 x_5669 iM_trouble rM_letters x_5670 iM_hasCourt rM_r rM_fresh rM_told rM_read rM_st rM_undone rM_kept iM_undos iM_images rM_fresher iM_fresherSize iM_scale iM_night rM_heardRow rM_cutRow iM_breaths iM_cutMany iM_allBreaths rM_trial rM_words iM_fewestBreaths iM_orderMany iM_orderSum iM_leastOrder rM_often iM_setMany iM_someOf iM_allOf iM_allWeight iM_enoughWeight iM_worthSum iM_firstRest iM_leastDrawn), (arI rM_letters kM_letters 8 f_5671), (arI rM_fresh kM_fresh 287 fM_fresh), (arI rM_read kM_read 90 fM_read)]) rfl
    have hFc := va_freeM hD hS hA _ hMs
    refine va_calli (va_runV (As := []) (rest := []) ⟨hx, hb, hml, hown, hts⟩ (tX7_nodeHere l dC dI _ oM iM_thrown rM_tape iM_taped iM_size x_5663 x_5664 x_5665 x_5666 x_5667 x_5668 x_5669 iM_trouble rM_letters f_5671 kM_letters x_5670 iM_hasCourt rM_r rM_fresh fM_fresh kM_fresh rM_told rM_read fM_read kM_read rM_st rM_undone rM_kept iM_undos iM_images rM_fresher iM_fresherSize iM_scale iM_night rM_heardRow rM_cutRow iM_breaths iM_cutMany iM_allBreaths rM_trial rM_words iM_fewestBreaths iM_orderMany iM_orderSum iM_leastOrder rM_often iM_setMany iM_someOf iM_allOf iM_allWeight iM_enoughWeight iM_worthSum iM_firstRest iM_leastDrawn b_iM_taped b_iM_size b_x_5664 b_x_5667 b_x_5670 b_iM_hasCourt b_iM_undos b_iM_images b_iM_scale b_iM_breaths b_iM_cutMany e_x_5663_1 r_P) (cwV 0 hts (wd_V wd_486 wd_487 wd_488 wd_5 (wd_c wd_489)) rfl rfl rfl dv_yX7_nodeHere_0 ⟨Nat.le_of_ble_eq_true rfl, Nat.le_of_ble_eq_true rfl⟩) ⟨Pw.fb, recvX7 hK hP (q0 := 0) rfl, fun U hU hW => Pw.to (hP.ms _ hMs) (hD.ms _ hMs) (hK.ms [false, true, true, true] rfl) hE hS hFc hU hW⟩ rfl rfl hl.1 rfl (lv_room (Nat.le_of_ble_eq_true rfl)) dX7_throneLine_28 ⟨Nat.le_of_ble_eq_true rfl, Nat.le_of_ble_eq_true rfl⟩) hS (fun q _ h => hFc q h) hFc (fun r u t H locs ht hvm hw hB hz1 hk1 hS => ?_)
    have hru9 := hw.2
    have hw := hw.1
    refine ex_3_4 hB (fun x_5673 x_5674 x_5675 b_x_5675 e_x_5673_0 e_x_5673_1 e_x_5673_2 hB => ?_)
    obtain ⟨hP, hD⟩ := Bw.goN (ws' := [(oc7 oM iM_thrown rM_tape iM_taped iM_size x_5663 x_5664 x_5665 x_5666 x_5667 x_5673 x_5674 iM_trouble rM_letters x_5675 iM_hasCourt rM_r rM_fresh rM_told rM_read rM_st rM_undone rM_kept iM_undos iM_images rM_fresher iM_fresherSize iM_scale iM_night rM_heardRow rM_cutRow iM_breaths iM_cutMany iM_allBreaths rM_trial rM_words iM_fewestBreaths iM_orderMany iM_orderSum iM_leastOrder rM_often iM_setMany iM_someOf iM_allOf iM_allWeight iM_enoughWeight iM_worthSum iM_firstRest iM_leastDrawn), (arI rM_tape kM_tape 900 fM_tape), (arI rM_letters kM_letters 8 f_5671), (arI rM_fresh kM_fresh 287 fM_fresh), (arI rM_read kM_read 90 fM_read)]) hB rfl ht hP hD _ hMs hk1 hFc rfl
    clear hz1 hk1 hvm ht hB hMs
    rw [← hru9] at e_x_5673_2
    obtain ⟨x_5676, rfl⟩ : ∃ z, z = r := ⟨_, rfl⟩
    have hG := hG.trans (un4_eq e_x_5673_2)
    have lx_5676 := hw.2
    have ux_5676 := hw.2
    clear e_x_5673_1
    have h_5677 : x_5676.toInt < (fM_fresh 1).toInt := lx_5676.2.1 (om_60c3b8c8 pl_fM_fresh.2.2.2.2.1.2 cx_5632 gc_5633)
    refine lv_istore_n (lv' := [(1, .int x_5676), (0, .ref oM)]) hx hb dX7_throneLine_31 rfl hl (by decide) rfl (fun ls hl => ?_)
    refine lv_aload_n hx hb dX7_throneLine_32 rfl (lv_at hl 1 rfl) ?_
    have hMs := ml_of hD [true, true, true, false, false] (wc := [(oc7 oM iM_thrown rM_tape iM_taped iM_size x_5663 x_5664 x_5665 x_5666 x_5667 x_5673 x_5674 iM_trouble rM_letters x_5675 iM_hasCourt rM_r rM_fresh rM_told rM_read rM_st rM_undone rM_kept iM_undos iM_images rM_fresher iM_fresherSize iM_scale iM_night rM_heardRow rM_cutRow iM_breaths iM_cutMany iM_allBreaths rM_trial rM_words iM_fewestBreaths iM_orderMany iM_orderSum iM_leastOrder rM_often iM_setMany iM_someOf iM_allOf iM_allWeight iM_enoughWeight iM_worthSum iM_firstRest iM_leastDrawn), (arI rM_tape kM_tape 900 fM_tape), (arI rM_letters kM_letters 8 f_5671)]) rfl
    have hFc := va_freeM hD hS hA _ hMs
    refine va_callv (va_runV (As := []) (rest := []) ⟨hx, hb, hml, hown, hts⟩ (tX7_pass l dC dI _ oM iM_thrown rM_tape fM_tape kM_tape iM_taped iM_size x_5663 x_5664 x_5665 x_5666 x_5667 x_5673 x_5674 iM_trouble rM_letters f_5671 kM_letters x_5675 iM_hasCourt rM_r rM_fresh rM_told rM_read rM_st rM_undone rM_kept iM_undos iM_images rM_fresher iM_fresherSize iM_scale iM_night rM_heardRow rM_cutRow iM_breaths iM_cutMany iM_allBreaths rM_trial rM_words iM_fewestBreaths iM_orderMany iM_orderSum iM_leastOrder rM_often iM_setMany iM_someOf iM_allOf iM_allWeight iM_enoughWeight iM_worthSum iM_firstRest iM_leastDrawn b_iM_taped b_iM_size b_x_5664 b_x_5667 b_x_5675 b_iM_hasCourt b_iM_undos b_iM_images b_iM_scale b_iM_breaths b_iM_cutMany e_x_5663_1) (cwV 0 hts (wd_V wd_454 wd_455 wd_456 wd_5 (wd_c wd_457)) rfl rfl rfl dv_yX7_pass_0 ⟨Nat.le_of_ble_eq_true rfl, Nat.le_of_ble_eq_true rfl⟩) ⟨Pw.fb, recvX7 hK hP (q0 := 0) rfl, fun U hU hW => Pw.to (hP.ms _ hMs) (hD.ms _ hMs) (hK.ms [true, true, false, false] rfl) hE hS hFc hU hW⟩ rfl rfl hl.1 rfl (lv_room (Nat.le_of_ble_eq_true rfl)) dX7_throneLine_33 ⟨Nat.le_of_ble_eq_true rfl, Nat.le_of_ble_eq_true rfl⟩) hS (fun q _ h => hFc q h) hFc (fun u t H locs ht hvm hw hB hz1 hk1 hS => ?_)
    refine ex_6_6 hB (fun x_5678 x_5679 x_5680 x_5681 x_5682 f_5683 b_x_5679 b_x_5682 e_x_5678_0 e_x_5678_1 e_x_5678_2 e_x_5678_3 hB => ?_)
    obtain ⟨hP, hD⟩ := Bw.goN (ws' := [(oc7 oM iM_thrown rM_tape iM_taped iM_size x_5678 x_5679 x_5680 x_5681 x_5682 x_5673 x_5674 iM_trouble rM_letters x_5675 iM_hasCourt rM_r rM_fresh rM_told rM_read rM_st rM_undone rM_kept iM_undos iM_images rM_fresher iM_fresherSize iM_scale iM_night rM_heardRow rM_cutRow iM_breaths iM_cutMany iM_allBreaths rM_trial rM_words iM_fewestBreaths iM_orderMany iM_orderSum iM_leastOrder rM_often iM_setMany iM_someOf iM_allOf iM_allWeight iM_enoughWeight iM_worthSum iM_firstRest iM_leastDrawn), (arI rM_tape kM_tape 900 fM_tape), (arI rM_letters kM_letters 8 f_5683), (arI rM_fresh kM_fresh 287 fM_fresh), (arI rM_read kM_read 90 fM_read)]) hB rfl ht hP hD _ hMs hk1 hFc rfl
    clear hz1 hk1 hvm ht hB hMs
    have hG := hG.trans (un6_eq e_x_5678_3)
    clear e_x_5663_1
    clear e_x_5663_4
    refine lv_aload_n hx hb dX7_throneLine_36 rfl (lv_at hl 1 rfl) ?_
    refine va_get (D := (dC, dI)) (ci := 7) (v := .int x_5675) (C := RX7) (T := TX7) (N := 48) hx hb hts inX7 hown hK hP 0 rfl rfl 13 (by decide) (hts _ wd_380) (fun _ h9 => h9) rfl dX7_throneLine_37 ?_
    refine lv_if_ne (tgt := 51) hx hb dX7_throneLine_40 (by decide) (fun c_5684 => ?_) (fun c_5684 => ?_)
    · skip
      have hG := hG.trans (if_neg c_5684)
      have gc_5684 := ti_ne c_5684 rfl kc_0
      replace gc_5684 : (-1) * x_5675.toInt + 1 ≤ 0 := om_e3003f79 gc_5684 b_x_5675.1
      exact wq_v hx hb hr 0 trivial (fun t ht hW => ⟨x_5678, x_5679, x_5680, x_5681, x_5682, x_5673, x_5674, x_5675, f_5683, fM_fresh, b_x_5679, b_x_5682, b_x_5675, (om_9348f5ae e_x_5663_0 e_x_5678_0), e_x_5678_1, (om_be042b3b b_iM_failed.2 gc_5684), (fun h9 => False.elim (om_a5fe015d gc_5684 h9.1)), r_P, hG, Bw.to hP hD hK ht hW⟩) hS dX7_throneLine_51 hlocks
    · skip
      have hG := hG.trans (if_pos c_5684)
      have gc_5684 := ti_eq c_5684 rfl kc_0
      exact ((om_5c6c3440 e_x_5659_0 e_x_5663_2 e_x_5673_0 gc_5684)).elim
set_option maxHeartbeats 4000000 in
set_option maxRecDepth 100000 in
theorem tX7_saidLine (l : Launch) (dC : Nat → ClassId) (dI : Nat → Nat → Nat) (sz : Nat) (oM : Nat) (iM_thrown : Int32) (rM_tape : Nat) (fM_tape : Nat → Int32) (kM_tape : ClassId) (iM_taped : Int32) (iM_size : Int32) (iM_at : Int32) (iM_end : Int32) (iM_token : Int32) (iM_whole : Int32) (iM_nameSize : Int32) (iM_fault : Int32) (iM_place : Int32) (iM_trouble : Int32) (rM_letters : Nat) (fM_letters : Nat → Int32) (kM_letters : ClassId) (iM_failed : Int32) (iM_hasCourt : Int32) (rM_r : Nat) (rM_fresh : Nat) (fM_fresh : Nat → Int32) (kM_fresh : ClassId) (rM_told : Nat) (rM_read : Nat) (fM_read : Nat → Int32) (kM_read : ClassId) (rM_st : Nat) (rM_undone : Nat) (rM_kept : Nat) (iM_undos : Int32) (iM_images : Int32) (rM_fresher : Nat) (iM_fresherSize : Int32) (iM_scale : Int32) (iM_night : Int32) (rM_heardRow : Nat) (rM_cutRow : Nat) (iM_breaths : Int32) (iM_cutMany : Int32) (iM_allBreaths : Int32) (rM_trial : Nat) (rM_words : Nat) (iM_fewestBreaths : Int32) (iM_orderMany : Int32) (iM_orderSum : Int32) (iM_leastOrder : Int32) (rM_often : Nat) (iM_setMany : Int32) (iM_someOf : Int32) (iM_allOf : Int32) (iM_allWeight : Int64) (iM_enoughWeight : Int64) (iM_worthSum : Int64) (iM_firstRest : Int32) (iM_leastDrawn : Int32) (b_iM_taped : 0 ≤ iM_taped.toInt ∧ iM_taped.toInt ≤ 900) (b_iM_size : 0 ≤ iM_size.toInt ∧ iM_size.toInt ≤ 900) (b_iM_end : 0 ≤ iM_end.toInt ∧ iM_end.toInt ≤ 900) (b_iM_nameSize : 0 ≤ iM_nameSize.toInt ∧ iM_nameSize.toInt ≤ 900) (b_iM_failed : 0 ≤ iM_failed.toInt ∧ iM_failed.toInt ≤ 1) (b_iM_hasCourt : 0 ≤ iM_hasCourt.toInt ∧ iM_hasCourt.toInt ≤ 1) (b_iM_undos : 0 ≤ iM_undos.toInt ∧ iM_undos.toInt ≤ 16) (b_iM_images : 0 ≤ iM_images.toInt ∧ iM_images.toInt ≤ 3) (b_iM_scale : 1 ≤ iM_scale.toInt ∧ iM_scale.toInt ≤ 1296) (b_iM_breaths : 0 ≤ iM_breaths.toInt ∧ iM_breaths.toInt ≤ 399) (b_iM_cutMany : 0 ≤ iM_cutMany.toInt ∧ iM_cutMany.toInt ≤ 399) (r_T : ImpP (iM_token.toInt = 2) (iM_nameSize.toInt ≤ 8)) (r_P : POk fM_fresh fM_read)  : Met l yX7_saidLine (Cond.code yX7_saidLine cX7_saidLine 2 none :: wG) ({ frames := 6, cells := 0, slots := 0, locals := 156 }) (va_Pc [.ref oM] (Pw dC dI sz [(oc7 oM iM_thrown rM_tape iM_taped iM_size iM_at iM_end iM_token iM_whole iM_nameSize iM_fault iM_place iM_trouble rM_letters iM_failed iM_hasCourt rM_r rM_fresh rM_told rM_read rM_st rM_undone rM_kept iM_undos iM_images rM_fresher iM_fresherSize iM_scale iM_night rM_heardRow rM_cutRow iM_breaths iM_cutMany iM_allBreaths rM_trial rM_words iM_fewestBreaths iM_orderMany iM_orderSum iM_leastOrder rM_often iM_setMany iM_someOf iM_allOf iM_allWeight iM_enoughWeight iM_worthSum iM_firstRest iM_leastDrawn), (arI rM_tape kM_tape 900 fM_tape), (arI rM_letters kM_letters 8 fM_letters), (arI rM_fresh kM_fresh 287 fM_fresh), (arI rM_read kM_read 90 fM_read)] [(kM_tape, .int), (kM_letters, .int), (kM_fresh, .int), (kM_read, .int)])) (va_Qv (fun (_ : Nat) => True) (fun (_ : Nat) (t : State) => ∃ (niM_at : Int32) (niM_end : Int32) (niM_token : Int32) (niM_whole : Int32) (niM_nameSize : Int32) (niM_fault : Int32) (niM_place : Int32) (niM_failed : Int32) (nfM_letters : Nat → Int32) (nfM_fresh : Nat → Int32), (0 ≤ niM_end.toInt ∧ niM_end.toInt ≤ 900) ∧ (0 ≤ niM_nameSize.toInt ∧ niM_nameSize.toInt ≤ 900) ∧ (0 ≤ niM_failed.toInt ∧ niM_failed.toInt ≤ 1) ∧ (iM_end.toInt ≤ niM_end.toInt) ∧ (ImpP (niM_token.toInt = 2) (niM_nameSize.toInt ≤ 8)) ∧ (iM_failed.toInt ≤ niM_failed.toInt) ∧ (ImpP (niM_failed.toInt ≤ 0 ∧ niM_token.toInt = 59 ) (iM_end.toInt + 1 ≤ niM_end.toInt)) ∧ (POk nfM_fresh fM_read) ∧ (PX7_saidLine fM_tape iM_size iM_at iM_end iM_token iM_whole iM_nameSize iM_fault iM_place fM_letters iM_failed fM_fresh = (niM_at, niM_end, niM_token, niM_whole, niM_nameSize, niM_fault, niM_place, niM_failed, nfM_letters, nfM_fresh)) ∧ Bw dC dI (va_A [(oc7 oM iM_thrown rM_tape iM_taped iM_size iM_at iM_end iM_token iM_whole iM_nameSize iM_fault iM_place iM_trouble rM_letters iM_failed iM_hasCourt rM_r rM_fresh rM_told rM_read rM_st rM_undone rM_kept iM_undos iM_images rM_fresher iM_fresherSize iM_scale iM_night rM_heardRow rM_cutRow iM_breaths iM_cutMany iM_allBreaths rM_trial rM_words iM_fewestBreaths iM_orderMany iM_orderSum iM_leastOrder rM_often iM_setMany iM_someOf iM_allOf iM_allWeight iM_enoughWeight iM_worthSum iM_firstRest iM_leastDrawn), (arI rM_tape kM_tape 900 fM_tape), (arI rM_letters kM_letters 8 fM_letters), (arI rM_fresh kM_fresh 287 fM_fresh), (arI rM_read kM_read 90 fM_read)] sz) [(oc7 oM iM_thrown rM_tape iM_taped iM_size niM_at niM_end niM_token niM_whole niM_nameSize niM_fault niM_place iM_trouble rM_letters niM_failed iM_hasCourt rM_r rM_fresh rM_told rM_read rM_st rM_undone rM_kept iM_undos iM_images rM_fresher iM_fresherSize iM_scale iM_night rM_heardRow rM_cutRow iM_breaths iM_cutMany iM_allBreaths rM_trial rM_words iM_fewestBreaths iM_orderMany iM_orderSum iM_leastOrder rM_often iM_setMany iM_someOf iM_allOf iM_allWeight iM_enoughWeight iM_worthSum iM_firstRest iM_leastDrawn), (arI rM_tape kM_tape 900 fM_tape), (arI rM_letters kM_letters 8 nfM_letters), (arI rM_fresh kM_fresh 287 nfM_fresh), (arI rM_read kM_read 90 fM_read)] [(kM_tape, .int), (kM_letters, .int), (kM_fresh, .int), (kM_read, .int)] t) (va_A [(oc7 oM iM_thrown rM_tape iM_taped iM_size iM_at iM_end iM_token iM_whole iM_nameSize iM_fault iM_place iM_trouble rM_letters iM_failed iM_hasCourt rM_r rM_fresh rM_told rM_read rM_st rM_undone rM_kept iM_undos iM_images rM_fresher iM_fresherSize iM_scale iM_night rM_heardRow rM_cutRow iM_breaths iM_cutMany iM_allBreaths rM_trial rM_words iM_fewestBreaths iM_orderMany iM_orderSum iM_leastOrder rM_often iM_setMany iM_someOf iM_allOf iM_allWeight iM_enoughWeight iM_worthSum iM_firstRest iM_leastDrawn), (arI rM_tape kM_tape 900 fM_tape), (arI rM_letters kM_letters 8 fM_letters), (arI rM_fresh kM_fresh 287 fM_fresh), (arI rM_read kM_read 90 fM_read)] sz)) 0 0 (va_A [(oc7 oM iM_thrown rM_tape iM_taped iM_size iM_at iM_end iM_token iM_whole iM_nameSize iM_fault iM_place iM_trouble rM_letters iM_failed iM_hasCourt rM_r rM_fresh rM_told rM_read rM_st rM_undone rM_kept iM_undos iM_images rM_fresher iM_fresherSize iM_scale iM_night rM_heardRow rM_cutRow iM_breaths iM_cutMany iM_allBreaths rM_trial rM_words iM_fewestBreaths iM_orderMany iM_orderSum iM_leastOrder rM_often iM_setMany iM_someOf iM_allOf iM_allWeight iM_enoughWeight iM_worthSum iM_firstRest iM_leastDrawn), (arI rM_tape kM_tape 900 fM_tape), (arI rM_letters kM_letters 8 fM_letters), (arI rM_fresh kM_fresh 287 fM_fresh), (arI rM_read kM_read 90 fM_read)] sz) := by
  refine Met.ofW (cc := cX7_saidLine) (maxL := 2) (ret := none) pnX7 rfl ?_
  intro p e s m args below meth c s₁ B hml hv
  obtain ⟨rfl, hsz, hP, hK, hD0, hE⟩ := hv
  have hx := B.exec
  have hb := B.bytes
  have hr := B.returns
  have hts : ∀ w ∈ wG, w.before ([.ref oM] : List Value).toArray s = true := fun w h => atoms_spec (ws := Cond.code yX7_saidLine cX7_saidLine 2 none :: wG) B.pre w (List.mem_cons_of_mem _ h)
  have hown : s.vm.findClass RX7 = some m.cls := own_of B.named rfl
  have hlocks := B.notSynchronized
  subst hsz
  have hD := hD0.self (sz := s.heap.size)
  generalize hAe : va_A [(oc7 oM iM_thrown rM_tape iM_taped iM_size iM_at iM_end iM_token iM_whole iM_nameSize iM_fault iM_place iM_trouble rM_letters iM_failed iM_hasCourt rM_r rM_fresh rM_told rM_read rM_st rM_undone rM_kept iM_undos iM_images rM_fresher iM_fresherSize iM_scale iM_night rM_heardRow rM_cutRow iM_breaths iM_cutMany iM_allBreaths rM_trial rM_words iM_fewestBreaths iM_orderMany iM_orderSum iM_leastOrder rM_often iM_setMany iM_someOf iM_allOf iM_allWeight iM_enoughWeight iM_worthSum iM_firstRest iM_leastDrawn), (arI rM_tape kM_tape 900 fM_tape), (arI rM_letters kM_letters 8 fM_letters), (arI rM_fresh kM_fresh 287 fM_fresh), (arI rM_read kM_read 90 fM_read)] s.heap.size = A at hD hE ⊢
  have hA : ∀ q : Nat, s.heap.size ≤ q → A q := fun q h => by rw [← hAe]; exact Or.inr h
  have hS : va_S A s.heap s.heap [] := va_S.rf
  have hl := lv_entry ([.ref oM]) (n := 2) (Nat.le_of_ble_eq_true rfl)
  rw [lg_entry_eq]
  generalize (lg_sl ([.ref oM]) ++ List.replicate (2 - (lg_sl ([.ref oM])).length) Slot.unset).toArray = ls at hl ⊢
  have hl : lv_has ls 2 [(0, .ref oM)] := hl
  have hG := PX7_saidLine_eq fM_tape iM_size iM_at iM_end iM_token iM_whole iM_nameSize iM_fault iM_place fM_letters iM_failed fM_fresh
  have pl_fM_fresh := r_P.lins
  refine lv_aload_n hx hb dX7_saidLine_0 rfl (lv_at hl 0 rfl) ?_
  refine va_get (D := (dC, dI)) (ci := 7) (v := .ref rM_fresh) (C := RX7) (T := TX7) (N := 48) hx hb hts inX7 hown hK hP 0 rfl rfl 16 (by decide) (hts _ wd_156) (fun _ h9 => h9) rfl dX7_saidLine_1 ?_
  refine lv_iconst (v := 4) hx hb dX7_saidLine_4 (by decide) ?_
  refine va_iald hx hb hK hP 3 2 rfl rfl (by unfold vp_in; decide) dX7_saidLine_5 ?_
  refine lv_topi (fun x_5736 ex_5736 => ?_)
  have hG := hG.trans (lt_eq ex_5736)
  have cx_5736 : (fM_fresh 4).toInt = x_5736.toInt := congrArg Int32.toInt (show fM_fresh 4 = x_5736 from ex_5736.symm)
  refine lv_if_le (tgt := 18) hx hb dX7_saidLine_6 (by decide) (fun c_5737 => ?_) (fun c_5737 => ?_)
  · skip
    have hG := hG.trans (if_pos c_5737)
    have gc_5737 := ti_le c_5737 rfl kc_0
    refine lv_aload_n hx hb dX7_saidLine_18 rfl (lv_at hl 0 rfl) ?_
    obtain ⟨sa_5738, vsa_5738, nsa_5738, fsa_5738, hnsa_5738, hnesa_5738, hfesa_5738, hRsa_5738, hSsa_5738⟩ := hE.2.2.1 (148, "said", [115, 97, 105, 100]) (by decide)
    have hG := hG.trans (lt_eq hnesa_5738)
    have hG := hG.trans (lt_eq hfesa_5738)
    refine va_ldcS hx hb hown hRsa_5738 dX7_saidLine_19 ?_
    refine lv_iconst (v := 1) hx hb dX7_saidLine_21 (by decide) ?_
    have hFc := va_freeI hD hS hA
    refine va_calli (va_runV (As := [.ref sa_5738, .int 1]) (rest := []) ⟨hx, hb, hml, hown, hts⟩ (tX7_begins l dC dI _ oM iM_thrown rM_tape fM_tape kM_tape iM_taped iM_size iM_at iM_end iM_token iM_whole iM_nameSize iM_fault iM_place iM_trouble rM_letters fM_letters kM_letters iM_failed iM_hasCourt rM_r rM_fresh fM_fresh kM_fresh rM_told rM_read fM_read kM_read rM_st rM_undone rM_kept iM_undos iM_images rM_fresher iM_fresherSize iM_scale iM_night rM_heardRow rM_cutRow iM_breaths iM_cutMany iM_allBreaths rM_trial rM_words iM_fewestBreaths iM_orderMany iM_orderSum iM_leastOrder rM_often iM_setMany iM_someOf iM_allOf iM_allWeight iM_enoughWeight iM_worthSum iM_firstRest iM_leastDrawn sa_5738 1 vsa_5738 nsa_5738 fsa_5738 b_iM_taped b_iM_size b_iM_end b_iM_nameSize b_iM_failed b_iM_hasCourt b_iM_undos b_iM_images b_iM_scale b_iM_breaths b_iM_cutMany r_T r_P (Nat.le_trans (Nat.le_of_eq hnesa_5738) (by decide)) ⟨(om_1b364b1c kc_1), (om_02032f93 kc_1)⟩) (cwV 2 hts (wd_V wd_450 wd_451 wd_452 wd_5 (wd_c wd_453)) rfl rfl rfl dv_yX7_begins_2 ⟨Nat.le_of_ble_eq_true rfl, Nat.le_of_ble_eq_true rfl⟩) ⟨Pq.fb, recvX7 hK hP (q0 := 0) rfl, fun U hU hW => Pq.to hP hD hK hSsa_5738 hE hS hFc hU hW⟩ rfl rfl hl.1 rfl (lv_room (Nat.le_of_ble_eq_true rfl)) dX7_saidLine_22 ⟨Nat.le_of_ble_eq_true rfl, Nat.le_of_ble_eq_true rfl⟩) hS (fun q _ h => hFc q h) hFc (fun r u t H locs ht hvm hw hB hz1 hk1 hS => ?_)
    have hru9 := hw.2
    have hw := hw.1
    refine ex_9_9 hB (fun x_5739 x_5740 x_5741 x_5742 x_5743 x_5744 x_5745 x_5746 f_5747 b_x_5740 b_x_5743 b_x_5746 e_x_5739_0 e_x_5739_1 e_x_5739_2 e_x_5739_3 e_x_5739_4 e_x_5739_5 hB => ?_)
    obtain ⟨hP, hD⟩ := Bw.goA (ws' := [(oc7 oM iM_thrown rM_tape iM_taped iM_size x_5739 x_5740 x_5741 x_5742 x_5743 x_5744 x_5745 iM_trouble rM_letters x_5746 iM_hasCourt rM_r rM_fresh rM_told rM_read rM_st rM_undone rM_kept iM_undos iM_images rM_fresher iM_fresherSize iM_scale iM_night rM_heardRow rM_cutRow iM_breaths iM_cutMany iM_allBreaths rM_trial rM_words iM_fewestBreaths iM_orderMany iM_orderSum iM_leastOrder rM_often iM_setMany iM_someOf iM_allOf iM_allWeight iM_enoughWeight iM_worthSum iM_firstRest iM_leastDrawn), (arI rM_tape kM_tape 900 fM_tape), (arI rM_letters kM_letters 8 f_5747), (arI rM_fresh kM_fresh 287 fM_fresh), (arI rM_read kM_read 90 fM_read)]) hB rfl ht hFc rfl
    clear hz1 hk1 hvm ht hB
    rw [← hru9] at e_x_5739_5
    obtain ⟨x_5748, rfl⟩ : ∃ z, z = r := ⟨_, rfl⟩
    have hG := hG.trans (un10_eq e_x_5739_5)
    have bx_5748 := hw.1
    have dx_5748 := bz_tb bx_5748
    have lx_5748 := hw.2
    clear r_T
    refine lv_pop hx hb dX7_saidLine_25 rfl ?_
    refine lv_aload_n hx hb dX7_saidLine_26 rfl (lv_at hl 0 rfl) ?_
    refine lv_iconst (v := 0) hx hb dX7_saidLine_27 (by decide) ?_
    refine lv_bipush (v := 99) hx hb dX7_saidLine_28 (by decide) ?_
    have hMs := ml_of hD [true, true, true, false, false] (wc := [(oc7 oM iM_thrown rM_tape iM_taped iM_size x_5739 x_5740 x_5741 x_5742 x_5743 x_5744 x_5745 iM_trouble rM_letters x_5746 iM_hasCourt rM_r rM_fresh rM_told rM_read rM_st rM_undone rM_kept iM_undos iM_images rM_fresher iM_fresherSize iM_scale iM_night rM_heardRow rM_cutRow iM_breaths iM_cutMany iM_allBreaths rM_trial rM_words iM_fewestBreaths iM_orderMany iM_orderSum iM_leastOrder rM_often iM_setMany iM_someOf iM_allOf iM_allWeight iM_enoughWeight iM_worthSum iM_firstRest iM_leastDrawn), (arI rM_tape kM_tape 900 fM_tape), (arI rM_letters kM_letters 8 f_5747)]) rfl
    have hFc := va_freeM hD hS hA _ hMs
    refine va_calli (va_runV (As := [.int 0, .int 99]) (rest := []) ⟨hx, hb, hml, hown, hts⟩ (tX7_number l dC dI _ oM iM_thrown rM_tape fM_tape kM_tape iM_taped iM_size x_5739 x_5740 x_5741 x_5742 x_5743 x_5744 x_5745 iM_trouble rM_letters f_5747 kM_letters x_5746 iM_hasCourt rM_r rM_fresh rM_told rM_read rM_st rM_undone rM_kept iM_undos iM_images rM_fresher iM_fresherSize iM_scale iM_night rM_heardRow rM_cutRow iM_breaths iM_cutMany iM_allBreaths rM_trial rM_words iM_fewestBreaths iM_orderMany iM_orderSum iM_leastOrder rM_often iM_setMany iM_someOf iM_allOf iM_allWeight iM_enoughWeight iM_worthSum iM_firstRest iM_leastDrawn 0 99 b_iM_taped b_iM_size b_x_5740 b_x_5743 b_x_5746 b_iM_hasCourt b_iM_undos b_iM_images b_iM_scale b_iM_breaths b_iM_cutMany e_x_5739_1 (om_b0b40937 kc_0 kc_99)) (cwV 2 hts (wd_V wd_446 wd_447 wd_448 wd_5 (wd_c wd_449)) rfl rfl rfl dv_yX7_number_2 ⟨Nat.le_of_ble_eq_true rfl, Nat.le_of_ble_eq_true rfl⟩) ⟨Pw.fb, recvX7 hK hP (q0 := 0) rfl, fun U hU hW => Pw.to (hP.ms _ hMs) (hD.ms _ hMs) (hK.ms [true, true, false, false] rfl) hE hS hFc hU hW⟩ rfl rfl hl.1 rfl (lv_room (Nat.le_of_ble_eq_true rfl)) dX7_saidLine_30 ⟨Nat.le_of_ble_eq_true rfl, Nat.le_of_ble_eq_true rfl⟩) hS (fun q _ h => hFc q h) hFc (fun r u t H locs ht hvm hw hB hz1 hk1 hS => ?_)
    have hru9 := hw.2
    have hw := hw.1
    refine ex_9_8 hB (fun x_5749 x_5750 x_5751 x_5752 x_5753 x_5754 x_5755 x_5756 f_5757 b_x_5750 b_x_5753 b_x_5756 e_x_5749_0 e_x_5749_1 e_x_5749_2 e_x_5749_3 e_x_5749_4 hB => ?_)
    obtain ⟨hP, hD⟩ := Bw.goN (ws' := [(oc7 oM iM_thrown rM_tape iM_taped iM_size x_5749 x_5750 x_5751 x_5752 x_5753 x_5754 x_5755 iM_trouble rM_letters x_5756 iM_hasCourt rM_r rM_fresh rM_told rM_read rM_st rM_undone rM_kept iM_undos iM_images rM_fresher iM_fresherSize iM_scale iM_night rM_heardRow rM_cutRow iM_breaths iM_cutMany iM_allBreaths rM_trial rM_words iM_fewestBreaths iM_orderMany iM_orderSum iM_leastOrder rM_often iM_setMany iM_someOf iM_allOf iM_allWeight iM_enoughWeight iM_worthSum iM_firstRest iM_leastDrawn), (arI rM_tape kM_tape 900 fM_tape), (arI rM_letters kM_letters 8 f_5757), (arI rM_fresh kM_fresh 287 fM_fresh), (arI rM_read kM_read 90 fM_read)]) hB rfl ht hP hD _ hMs hk1 hFc rfl
    clear hz1 hk1 hvm ht hB hMs
    rw [← hru9] at e_x_5749_4
    obtain ⟨x_5758, rfl⟩ : ∃ z, z = r := ⟨_, rfl⟩
    have hG := hG.trans (un10_eq e_x_5749_4)
    have lx_5758 := hw.2
    have kl_0 := kc_0
    have kl_99 := kc_99
    clear e_x_5739_1
    clear e_x_5739_4
    refine lv_istore_n (lv' := [(1, .int x_5758), (0, .ref oM)]) hx hb dX7_saidLine_33 rfl hl (by decide) rfl (fun ls hl => ?_)
    refine lv_aload_n hx hb dX7_saidLine_34 rfl (lv_at hl 1 rfl) ?_
    refine va_get (D := (dC, dI)) (ci := 7) (v := .int x_5756) (C := RX7) (T := TX7) (N := 48) hx hb hts inX7 hown hK hP 0 rfl rfl 13 (by decide) (hts _ wd_380) (fun _ h9 => h9) rfl dX7_saidLine_35 ?_
    refine lv_if_ne (tgt := 50) hx hb dX7_saidLine_38 (by decide) (fun c_5759 => ?_) (fun c_5759 => ?_)
    · skip
      have hG := hG.trans (if_neg c_5759)
      have gc_5759 := ti_ne c_5759 rfl kc_0
      replace gc_5759 : (-1) * x_5756.toInt + 1 ≤ 0 := om_e3003f79 gc_5759 b_x_5756.1
      exact wq_v hx hb hr 0 trivial (fun t ht hW => ⟨x_5749, x_5750, x_5751, x_5752, x_5753, x_5754, x_5755, x_5756, f_5757, fM_fresh, b_x_5750, b_x_5753, b_x_5756, (om_9348f5ae e_x_5739_0 e_x_5749_0), e_x_5749_1, (om_9348f5ae e_x_5739_2 e_x_5749_2), (fun h9 => False.elim (om_a5fe015d gc_5759 h9.1)), r_P, hG, Bw.to hP hD hK ht hW⟩) hS dX7_saidLine_50 hlocks
    · skip
      have hG := hG.trans (if_pos c_5759)
      have gc_5759 := ti_eq c_5759 rfl kc_0
      refine lv_aload_n hx hb dX7_saidLine_41 rfl (lv_at hl 1 rfl) ?_
      refine va_get (D := (dC, dI)) (ci := 7) (v := .ref rM_fresh) (C := RX7) (T := TX7) (N := 48) hx hb hts inX7 hown hK hP 0 rfl rfl 16 (by decide) (hts _ wd_156) (fun _ h9 => h9) rfl dX7_saidLine_42 ?_
      refine lv_iconst (v := 4) hx hb dX7_saidLine_45 (by decide) ?_
      refine lv_iload_n hx hb dX7_saidLine_46 rfl (lv_at hl 0 rfl) ?_
      refine lv_iconst (v := 1) hx hb dX7_saidLine_47 (by decide) ?_
      refine lv_iadd hx hb dX7_saidLine_48 ?_
      refine lv_topi (fun x_5760 ex_5760 => ?_)
      have hG := hG.trans (lt_eq ex_5760)
      have vx_5760 : x_5760.toInt = x_5758.toInt + 1 := ti_add ex_5760 rfl kc_1 (om_55679156 lx_5758.1 kc_0) (om_a705d0e8 lx_5758.2 kc_99)
      refine va_iast hx hb hK hP hD hS 3 2 rfl rfl (by unfold vp_in; decide) dX7_saidLine_49 (fun H locs hP hD hS => ?_)
      obtain ⟨f_5761, ef_5761⟩ : ∃ g : Nat → Int32, g = upd fM_fresh (4 : Int32).toNatClampNeg x_5760 := ⟨_, rfl⟩
      rw [← ef_5761] at hP hD
      have hG := hG.trans (lt_eq ef_5761)
      obtain ⟨hP, hD⟩ := wl2 (ws' := [(oc7 oM iM_thrown rM_tape iM_taped iM_size x_5749 x_5750 x_5751 x_5752 x_5753 x_5754 x_5755 iM_trouble rM_letters x_5756 iM_hasCourt rM_r rM_fresh rM_told rM_read rM_st rM_undone rM_kept iM_undos iM_images rM_fresher iM_fresherSize iM_scale iM_night rM_heardRow rM_cutRow iM_breaths iM_cutMany iM_allBreaths rM_trial rM_words iM_fewestBreaths iM_orderMany iM_orderSum iM_leastOrder rM_often iM_setMany iM_someOf iM_allOf iM_allWeight iM_enoughWeight iM_worthSum iM_firstRest iM_leastDrawn), (arI rM_tape kM_tape 900 fM_tape), (arI rM_letters kM_letters 8 f_5757), (arI rM_fresh kM_fresh 287 f_5761), (arI rM_read kM_read 90 fM_read)]) hP hD rfl
      have pk_f_5761 : POk f_5761 fM_read := POk.put r_P ef_5761 (Or.inr (Or.inl (by have q9 : ((4 : Int32).toNatClampNeg : Nat) = 4 := rfl; omega)))
      have pl_f_5761 := pk_f_5761.lins
      exact wq_v hx hb hr 0 trivial (fun t ht hW => ⟨x_5749, x_5750, x_5751, x_5752, x_5753, x_5754, x_5755, x_5756, f_5757, f_5761, b_x_5750, b_x_5753, b_x_5756, (om_9348f5ae e_x_5739_0 e_x_5749_0), e_x_5749_1, (om_9348f5ae e_x_5739_2 e_x_5749_2), (fun h9 => (om_7ed234da e_x_5739_0 (e_x_5749_3 ⟨(om_02e9bb08 gc_5759), h9.2⟩))), pk_f_5761, hG, Bw.to hP hD hK ht hW⟩) hS dX7_saidLine_50 hlocks
  · skip
    have hG := hG.trans (if_neg c_5737)
    have gc_5737 := ti_nle c_5737 rfl kc_0
    refine lv_aload_n hx hb dX7_saidLine_9 rfl (lv_at hl 0 rfl) ?_
    refine lv_iconst (v := 3) hx hb dX7_saidLine_10 (by decide) ?_
    refine lv_aload_n hx hb dX7_saidLine_11 rfl (lv_at hl 0 rfl) ?_
    refine va_get (D := (dC, dI)) (ci := 7) (v := .int iM_at) (C := RX7) (T := TX7) (N := 48) hx hb hts inX7 hown hK hP 0 rfl rfl 4 (by decide) (hts _ wd_384) (fun _ h9 => h9) rfl dX7_saidLine_12 ?_
    have hMs := ml_of hD [true, false, false, false, false] (wc := [(oc7 oM iM_thrown rM_tape iM_taped iM_size iM_at iM_end iM_token iM_whole iM_nameSize iM_fault iM_place iM_trouble rM_letters iM_failed iM_hasCourt rM_r rM_fresh rM_told rM_read rM_st rM_undone rM_kept iM_undos iM_images rM_fresher iM_fresherSize iM_scale iM_night rM_heardRow rM_cutRow iM_breaths iM_cutMany iM_allBreaths rM_trial rM_words iM_fewestBreaths iM_orderMany iM_orderSum iM_leastOrder rM_often iM_setMany iM_someOf iM_allOf iM_allWeight iM_enoughWeight iM_worthSum iM_firstRest iM_leastDrawn)]) rfl
    have hFc := va_freeM hD hS hA _ hMs
    refine va_callv (va_runV (As := [.int 3, .int iM_at]) (rest := []) ⟨hx, hb, hml, hown, hts⟩ (tX7_wrong l dC dI _ oM iM_thrown rM_tape iM_taped iM_size iM_at iM_end iM_token iM_whole iM_nameSize iM_fault iM_place iM_trouble rM_letters iM_failed iM_hasCourt rM_r rM_fresh rM_told rM_read rM_st rM_undone rM_kept iM_undos iM_images rM_fresher iM_fresherSize iM_scale iM_night rM_heardRow rM_cutRow iM_breaths iM_cutMany iM_allBreaths rM_trial rM_words iM_fewestBreaths iM_orderMany iM_orderSum iM_leastOrder rM_often iM_setMany iM_someOf iM_allOf iM_allWeight iM_enoughWeight iM_worthSum iM_firstRest iM_leastDrawn 3 iM_at b_iM_taped b_iM_size b_iM_end b_iM_nameSize b_iM_failed b_iM_hasCourt b_iM_undos b_iM_images b_iM_scale b_iM_breaths b_iM_cutMany r_T) (cwV 2 hts (wd_V wd_430 wd_431 wd_432 wd_5 (wd_c wd_433)) rfl rfl rfl dv_yX7_wrong_2 ⟨Nat.le_of_ble_eq_true rfl, Nat.le_of_ble_eq_true rfl⟩) ⟨Pw.fb, recvX7 hK hP (q0 := 0) rfl, fun U hU hW => Pw.to (hP.ms _ hMs) (hD.ms _ hMs) (hK.ms [false, false, false, false] rfl) hE hS hFc hU hW⟩ rfl rfl hl.1 rfl (lv_room (Nat.le_of_ble_eq_true rfl)) dX7_saidLine_15 ⟨Nat.le_of_ble_eq_true rfl, Nat.le_of_ble_eq_true rfl⟩) hS (fun q _ h => hFc q h) hFc (fun u t H locs ht hvm hw hB hz1 hk1 hS => ?_)
    refine ex_3_3 hB (fun x_5762 x_5763 x_5764 b_x_5764 e_x_5762_0 e_x_5762_1 hB => ?_)
    obtain ⟨hP, hD⟩ := Bw.goN (ws' := [(oc7 oM iM_thrown rM_tape iM_taped iM_size iM_at iM_end iM_token iM_whole iM_nameSize x_5762 x_5763 iM_trouble rM_letters x_5764 iM_hasCourt rM_r rM_fresh rM_told rM_read rM_st rM_undone rM_kept iM_undos iM_images rM_fresher iM_fresherSize iM_scale iM_night rM_heardRow rM_cutRow iM_breaths iM_cutMany iM_allBreaths rM_trial rM_words iM_fewestBreaths iM_orderMany iM_orderSum iM_leastOrder rM_often iM_setMany iM_someOf iM_allOf iM_allWeight iM_enoughWeight iM_worthSum iM_firstRest iM_leastDrawn), (arI rM_tape kM_tape 900 fM_tape), (arI rM_letters kM_letters 8 fM_letters), (arI rM_fresh kM_fresh 287 fM_fresh), (arI rM_read kM_read 90 fM_read)]) hB rfl ht hP hD _ hMs hk1 hFc rfl
    clear hz1 hk1 hvm ht hB hMs
    have hG := hG.trans (un3_eq e_x_5762_1)
    refine lv_aload_n hx hb dX7_saidLine_18 rfl (lv_at hl 0 rfl) ?_
    obtain ⟨sa_5765, vsa_5765, nsa_5765, fsa_5765, hnsa_5765, hnesa_5765, hfesa_5765, hRsa_5765, hSsa_5765⟩ := hE.2.2.1 (148, "said", [115, 97, 105, 100]) (by decide)
    have hG := hG.trans (lt_eq hnesa_5765)
    have hG := hG.trans (lt_eq hfesa_5765)
    refine va_ldcS hx hb hown hRsa_5765 dX7_saidLine_19 ?_
    refine lv_iconst (v := 1) hx hb dX7_saidLine_21 (by decide) ?_
    have hFc := va_freeI hD hS hA
    refine va_calli (va_runV (As := [.ref sa_5765, .int 1]) (rest := []) ⟨hx, hb, hml, hown, hts⟩ (tX7_begins l dC dI _ oM iM_thrown rM_tape fM_tape kM_tape iM_taped iM_size iM_at iM_end iM_token iM_whole iM_nameSize x_5762 x_5763 iM_trouble rM_letters fM_letters kM_letters x_5764 iM_hasCourt rM_r rM_fresh fM_fresh kM_fresh rM_told rM_read fM_read kM_read rM_st rM_undone rM_kept iM_undos iM_images rM_fresher iM_fresherSize iM_scale iM_night rM_heardRow rM_cutRow iM_breaths iM_cutMany iM_allBreaths rM_trial rM_words iM_fewestBreaths iM_orderMany iM_orderSum iM_leastOrder rM_often iM_setMany iM_someOf iM_allOf iM_allWeight iM_enoughWeight iM_worthSum iM_firstRest iM_leastDrawn sa_5765 1 vsa_5765 nsa_5765 fsa_5765 b_iM_taped b_iM_size b_iM_end b_iM_nameSize b_x_5764 b_iM_hasCourt b_iM_undos b_iM_images b_iM_scale b_iM_breaths b_iM_cutMany r_T r_P (Nat.le_trans (Nat.le_of_eq hnesa_5765) (by decide)) ⟨(om_1b364b1c kc_1), (om_02032f93 kc_1)⟩) (cwV 2 hts (wd_V wd_450 wd_451 wd_452 wd_5 (wd_c wd_453)) rfl rfl rfl dv_yX7_begins_2 ⟨Nat.le_of_ble_eq_true rfl, Nat.le_of_ble_eq_true rfl⟩) ⟨Pq.fb, recvX7 hK hP (q0 := 0) rfl, fun U hU hW => Pq.to hP hD hK hSsa_5765 hE hS hFc hU hW⟩ rfl rfl hl.1 rfl (lv_room (Nat.le_of_ble_eq_true rfl)) dX7_saidLine_22 ⟨Nat.le_of_ble_eq_true rfl, Nat.le_of_ble_eq_true rfl⟩) hS (fun q _ h => hFc q h) hFc (fun r u t H locs ht hvm hw hB hz1 hk1 hS => ?_)
    have hru9 := hw.2
    have hw := hw.1
    refine ex_9_9 hB (fun x_5766 x_5767 x_5768 x_5769 x_5770 x_5771 x_5772 x_5773 f_5774 b_x_5767 b_x_5770 b_x_5773 e_x_5766_0 e_x_5766_1 e_x_5766_2 e_x_5766_3 e_x_5766_4 e_x_5766_5 hB => ?_)
    obtain ⟨hP, hD⟩ := Bw.goA (ws' := [(oc7 oM iM_thrown rM_tape iM_taped iM_size x_5766 x_5767 x_5768 x_5769 x_5770 x_5771 x_5772 iM_trouble rM_letters x_5773 iM_hasCourt rM_r rM_fresh rM_told rM_read rM_st rM_undone rM_kept iM_undos iM_images rM_fresher iM_fresherSize iM_scale iM_night rM_heardRow rM_cutRow iM_breaths iM_cutMany iM_allBreaths rM_trial rM_words iM_fewestBreaths iM_orderMany iM_orderSum iM_leastOrder rM_often iM_setMany iM_someOf iM_allOf iM_allWeight iM_enoughWeight iM_worthSum iM_firstRest iM_leastDrawn), (arI rM_tape kM_tape 900 fM_tape), (arI rM_letters kM_letters 8 f_5774), (arI rM_fresh kM_fresh 287 fM_fresh), (arI rM_read kM_read 90 fM_read)]) hB rfl ht hFc rfl
    clear hz1 hk1 hvm ht hB
    rw [← hru9] at e_x_5766_5
    obtain ⟨x_5775, rfl⟩ : ∃ z, z = r := ⟨_, rfl⟩
    have hG := hG.trans (un10_eq e_x_5766_5)
    have bx_5775 := hw.1
    have dx_5775 := bz_tb bx_5775
    have lx_5775 := hw.2
    clear r_T
    refine lv_pop hx hb dX7_saidLine_25 rfl ?_
    refine lv_aload_n hx hb dX7_saidLine_26 rfl (lv_at hl 0 rfl) ?_
    refine lv_iconst (v := 0) hx hb dX7_saidLine_27 (by decide) ?_
    refine lv_bipush (v := 99) hx hb dX7_saidLine_28 (by decide) ?_
    have hMs := ml_of hD [true, true, true, false, false] (wc := [(oc7 oM iM_thrown rM_tape iM_taped iM_size x_5766 x_5767 x_5768 x_5769 x_5770 x_5771 x_5772 iM_trouble rM_letters x_5773 iM_hasCourt rM_r rM_fresh rM_told rM_read rM_st rM_undone rM_kept iM_undos iM_images rM_fresher iM_fresherSize iM_scale iM_night rM_heardRow rM_cutRow iM_breaths iM_cutMany iM_allBreaths rM_trial rM_words iM_fewestBreaths iM_orderMany iM_orderSum iM_leastOrder rM_often iM_setMany iM_someOf iM_allOf iM_allWeight iM_enoughWeight iM_worthSum iM_firstRest iM_leastDrawn), (arI rM_tape kM_tape 900 fM_tape), (arI rM_letters kM_letters 8 f_5774)]) rfl
    have hFc := va_freeM hD hS hA _ hMs
    refine va_calli (va_runV (As := [.int 0, .int 99]) (rest := []) ⟨hx, hb, hml, hown, hts⟩ (tX7_number l dC dI _ oM iM_thrown rM_tape fM_tape kM_tape iM_taped iM_size x_5766 x_5767 x_5768 x_5769 x_5770 x_5771 x_5772 iM_trouble rM_letters f_5774 kM_letters x_5773 iM_hasCourt rM_r rM_fresh rM_told rM_read rM_st rM_undone rM_kept iM_undos iM_images rM_fresher iM_fresherSize iM_scale iM_night rM_heardRow rM_cutRow iM_breaths iM_cutMany iM_allBreaths rM_trial rM_words iM_fewestBreaths iM_orderMany iM_orderSum iM_leastOrder rM_often iM_setMany iM_someOf iM_allOf iM_allWeight iM_enoughWeight iM_worthSum iM_firstRest iM_leastDrawn 0 99 b_iM_taped b_iM_size b_x_5767 b_x_5770 b_x_5773 b_iM_hasCourt b_iM_undos b_iM_images b_iM_scale b_iM_breaths b_iM_cutMany e_x_5766_1 (om_b0b40937 kc_0 kc_99)) (cwV 2 hts (wd_V wd_446 wd_447 wd_448 wd_5 (wd_c wd_449)) rfl rfl rfl dv_yX7_number_2 ⟨Nat.le_of_ble_eq_true rfl, Nat.le_of_ble_eq_true rfl⟩) ⟨Pw.fb, recvX7 hK hP (q0 := 0) rfl, fun U hU hW => Pw.to (hP.ms _ hMs) (hD.ms _ hMs) (hK.ms [true, true, false, false] rfl) hE hS hFc hU hW⟩ rfl rfl hl.1 rfl (lv_room (Nat.le_of_ble_eq_true rfl)) dX7_saidLine_30 ⟨Nat.le_of_ble_eq_true rfl, Nat.le_of_ble_eq_true rfl⟩) hS (fun q _ h => hFc q h) hFc (fun r u t H locs ht hvm hw hB hz1 hk1 hS => ?_)
    have hru9 := hw.2
    have hw := hw.1
    refine ex_9_8 hB (fun x_5776 x_5777 x_5778 x_5779 x_5780 x_5781 x_5782 x_5783 f_5784 b_x_5777 b_x_5780 b_x_5783 e_x_5776_0 e_x_5776_1 e_x_5776_2 e_x_5776_3 e_x_5776_4 hB => ?_)
    obtain ⟨hP, hD⟩ := Bw.goN (ws' := [(oc7 oM iM_thrown rM_tape iM_taped iM_size x_5776 x_5777 x_5778 x_5779 x_5780 x_5781 x_5782 iM_trouble rM_letters x_5783 iM_hasCourt rM_r rM_fresh rM_told rM_read rM_st rM_undone rM_kept iM_undos iM_images rM_fresher iM_fresherSize iM_scale iM_night rM_heardRow rM_cutRow iM_breaths iM_cutMany iM_allBreaths rM_trial rM_words iM_fewestBreaths iM_orderMany iM_orderSum iM_leastOrder rM_often iM_setMany iM_someOf iM_allOf iM_allWeight iM_enoughWeight iM_worthSum iM_firstRest iM_leastDrawn), (arI rM_tape kM_tape 900 fM_tape), (arI rM_letters kM_letters 8 f_5784), (arI rM_fresh kM_fresh 287 fM_fresh), (arI rM_read kM_read 90 fM_read)]) hB rfl ht hP hD _ hMs hk1 hFc rfl
    clear hz1 hk1 hvm ht hB hMs
    rw [← hru9] at e_x_5776_4
    obtain ⟨x_5785, rfl⟩ : ∃ z, z = r := ⟨_, rfl⟩
    have hG := hG.trans (un10_eq e_x_5776_4)
    have lx_5785 := hw.2
    have kl_0 := kc_0
    have kl_99 := kc_99
    clear e_x_5766_1
    clear e_x_5766_4
    refine lv_istore_n (lv' := [(1, .int x_5785), (0, .ref oM)]) hx hb dX7_saidLine_33 rfl hl (by decide) rfl (fun ls hl => ?_)
    refine lv_aload_n hx hb dX7_saidLine_34 rfl (lv_at hl 1 rfl) ?_
    refine va_get (D := (dC, dI)) (ci := 7) (v := .int x_5783) (C := RX7) (T := TX7) (N := 48) hx hb hts inX7 hown hK hP 0 rfl rfl 13 (by decide) (hts _ wd_380) (fun _ h9 => h9) rfl dX7_saidLine_35 ?_
    refine lv_if_ne (tgt := 50) hx hb dX7_saidLine_38 (by decide) (fun c_5786 => ?_) (fun c_5786 => ?_)
    · skip
      have hG := hG.trans (if_neg c_5786)
      have gc_5786 := ti_ne c_5786 rfl kc_0
      replace gc_5786 : (-1) * x_5783.toInt + 1 ≤ 0 := om_e3003f79 gc_5786 b_x_5783.1
      exact wq_v hx hb hr 0 trivial (fun t ht hW => ⟨x_5776, x_5777, x_5778, x_5779, x_5780, x_5781, x_5782, x_5783, f_5784, fM_fresh, b_x_5777, b_x_5780, b_x_5783, (om_9348f5ae e_x_5766_0 e_x_5776_0), e_x_5776_1, (om_be042b3b b_iM_failed.2 gc_5786), (fun h9 => False.elim (om_a5fe015d gc_5786 h9.1)), r_P, hG, Bw.to hP hD hK ht hW⟩) hS dX7_saidLine_50 hlocks
    · skip
      have hG := hG.trans (if_pos c_5786)
      have gc_5786 := ti_eq c_5786 rfl kc_0
      exact ((om_5c6c3440 e_x_5762_0 e_x_5766_2 e_x_5776_2 gc_5786)).elim
set_option maxHeartbeats 4000000 in
set_option maxRecDepth 100000 in
theorem tX7_unsureLine (l : Launch) (dC : Nat → ClassId) (dI : Nat → Nat → Nat) (sz : Nat) (oM : Nat) (iM_thrown : Int32) (rM_tape : Nat) (fM_tape : Nat → Int32) (kM_tape : ClassId) (iM_taped : Int32) (iM_size : Int32) (iM_at : Int32) (iM_end : Int32) (iM_token : Int32) (iM_whole : Int32) (iM_nameSize : Int32) (iM_fault : Int32) (iM_place : Int32) (iM_trouble : Int32) (rM_letters : Nat) (fM_letters : Nat → Int32) (kM_letters : ClassId) (iM_failed : Int32) (iM_hasCourt : Int32) (rM_r : Nat) (rM_fresh : Nat) (fM_fresh : Nat → Int32) (kM_fresh : ClassId) (rM_told : Nat) (rM_read : Nat) (fM_read : Nat → Int32) (kM_read : ClassId) (rM_st : Nat) (rM_undone : Nat) (rM_kept : Nat) (iM_undos : Int32) (iM_images : Int32) (rM_fresher : Nat) (iM_fresherSize : Int32) (iM_scale : Int32) (iM_night : Int32) (rM_heardRow : Nat) (rM_cutRow : Nat) (iM_breaths : Int32) (iM_cutMany : Int32) (iM_allBreaths : Int32) (rM_trial : Nat) (rM_words : Nat) (iM_fewestBreaths : Int32) (iM_orderMany : Int32) (iM_orderSum : Int32) (iM_leastOrder : Int32) (rM_often : Nat) (iM_setMany : Int32) (iM_someOf : Int32) (iM_allOf : Int32) (iM_allWeight : Int64) (iM_enoughWeight : Int64) (iM_worthSum : Int64) (iM_firstRest : Int32) (iM_leastDrawn : Int32) (b_iM_taped : 0 ≤ iM_taped.toInt ∧ iM_taped.toInt ≤ 900) (b_iM_size : 0 ≤ iM_size.toInt ∧ iM_size.toInt ≤ 900) (b_iM_end : 0 ≤ iM_end.toInt ∧ iM_end.toInt ≤ 900) (b_iM_nameSize : 0 ≤ iM_nameSize.toInt ∧ iM_nameSize.toInt ≤ 900) (b_iM_failed : 0 ≤ iM_failed.toInt ∧ iM_failed.toInt ≤ 1) (b_iM_hasCourt : 0 ≤ iM_hasCourt.toInt ∧ iM_hasCourt.toInt ≤ 1) (b_iM_undos : 0 ≤ iM_undos.toInt ∧ iM_undos.toInt ≤ 16) (b_iM_images : 0 ≤ iM_images.toInt ∧ iM_images.toInt ≤ 3) (b_iM_scale : 1 ≤ iM_scale.toInt ∧ iM_scale.toInt ≤ 1296) (b_iM_breaths : 0 ≤ iM_breaths.toInt ∧ iM_breaths.toInt ≤ 399) (b_iM_cutMany : 0 ≤ iM_cutMany.toInt ∧ iM_cutMany.toInt ≤ 399) (r_T : ImpP (iM_token.toInt = 2) (iM_nameSize.toInt ≤ 8)) (r_P : POk fM_fresh fM_read) (hul : ImpP (iM_failed.toInt ≤ 0) ((fM_fresh 3).toInt ≤ 3)) : Met l yX7_unsureLine (Cond.code yX7_unsureLine cX7_unsureLine 4 none :: wG) ({ frames := 7, cells := 0, slots := 0, locals := 175 }) (va_Pc [.ref oM] (Pw dC dI sz [(oc7 oM iM_thrown rM_tape iM_taped iM_size iM_at iM_end iM_token iM_whole iM_nameSize iM_fault iM_place iM_trouble rM_letters iM_failed iM_hasCourt rM_r rM_fresh rM_told rM_read rM_st rM_undone rM_kept iM_undos iM_images rM_fresher iM_fresherSize iM_scale iM_night rM_heardRow rM_cutRow iM_breaths iM_cutMany iM_allBreaths rM_trial rM_words iM_fewestBreaths iM_orderMany iM_orderSum iM_leastOrder rM_often iM_setMany iM_someOf iM_allOf iM_allWeight iM_enoughWeight iM_worthSum iM_firstRest iM_leastDrawn), (arI rM_tape kM_tape 900 fM_tape), (arI rM_letters kM_letters 8 fM_letters), (arI rM_fresh kM_fresh 287 fM_fresh), (arI rM_read kM_read 90 fM_read)] [(kM_tape, .int), (kM_letters, .int), (kM_fresh, .int), (kM_read, .int)])) (va_Qv (fun (_ : Nat) => True) (fun (_ : Nat) (t : State) => ∃ (niM_at : Int32) (niM_end : Int32) (niM_token : Int32) (niM_whole : Int32) (niM_nameSize : Int32) (niM_fault : Int32) (niM_place : Int32) (niM_failed : Int32) (nfM_letters : Nat → Int32) (nfM_fresh : Nat → Int32), (0 ≤ niM_end.toInt ∧ niM_end.toInt ≤ 900) ∧ (0 ≤ niM_nameSize.toInt ∧ niM_nameSize.toInt ≤ 900) ∧ (0 ≤ niM_failed.toInt ∧ niM_failed.toInt ≤ 1) ∧ (iM_end.toInt ≤ niM_end.toInt) ∧ (ImpP (niM_token.toInt = 2) (niM_nameSize.toInt ≤ 8)) ∧ (iM_failed.toInt ≤ niM_failed.toInt) ∧ (ImpP (niM_failed.toInt ≤ 0 ∧ niM_token.toInt = 59 ) (iM_end.toInt + 1 ≤ niM_end.toInt)) ∧ (POk nfM_fresh fM_read) ∧ (PX7_unsureLine fM_tape iM_size iM_at iM_end iM_token iM_whole iM_nameSize iM_fault iM_place fM_letters iM_failed fM_fresh = (niM_at, niM_end, niM_token, niM_whole, niM_nameSize, niM_fault, niM_place, niM_failed, nfM_letters, nfM_fresh)) ∧ Bw dC dI (va_A [(oc7 oM iM_thrown rM_tape iM_taped iM_size iM_at iM_end iM_token iM_whole iM_nameSize iM_fault iM_place iM_trouble rM_letters iM_failed iM_hasCourt rM_r rM_fresh rM_told rM_read rM_st rM_undone rM_kept iM_undos iM_images rM_fresher iM_fresherSize iM_scale iM_night rM_heardRow rM_cutRow iM_breaths iM_cutMany iM_allBreaths rM_trial rM_words iM_fewestBreaths iM_orderMany iM_orderSum iM_leastOrder rM_often iM_setMany iM_someOf iM_allOf iM_allWeight iM_enoughWeight iM_worthSum iM_firstRest iM_leastDrawn), (arI rM_tape kM_tape 900 fM_tape), (arI rM_letters kM_letters 8 fM_letters), (arI rM_fresh kM_fresh 287 fM_fresh), (arI rM_read kM_read 90 fM_read)] sz) [(oc7 oM iM_thrown rM_tape iM_taped iM_size niM_at niM_end niM_token niM_whole niM_nameSize niM_fault niM_place iM_trouble rM_letters niM_failed iM_hasCourt rM_r rM_fresh rM_told rM_read rM_st rM_undone rM_kept iM_undos iM_images rM_fresher iM_fresherSize iM_scale iM_night rM_heardRow rM_cutRow iM_breaths iM_cutMany iM_allBreaths rM_trial rM_words iM_fewestBreaths iM_orderMany iM_orderSum iM_leastOrder rM_often iM_setMany iM_someOf iM_allOf iM_allWeight iM_enoughWeight iM_worthSum iM_firstRest iM_leastDrawn), (arI rM_tape kM_tape 900 fM_tape), (arI rM_letters kM_letters 8 nfM_letters), (arI rM_fresh kM_fresh 287 nfM_fresh), (arI rM_read kM_read 90 fM_read)] [(kM_tape, .int), (kM_letters, .int), (kM_fresh, .int), (kM_read, .int)] t) (va_A [(oc7 oM iM_thrown rM_tape iM_taped iM_size iM_at iM_end iM_token iM_whole iM_nameSize iM_fault iM_place iM_trouble rM_letters iM_failed iM_hasCourt rM_r rM_fresh rM_told rM_read rM_st rM_undone rM_kept iM_undos iM_images rM_fresher iM_fresherSize iM_scale iM_night rM_heardRow rM_cutRow iM_breaths iM_cutMany iM_allBreaths rM_trial rM_words iM_fewestBreaths iM_orderMany iM_orderSum iM_leastOrder rM_often iM_setMany iM_someOf iM_allOf iM_allWeight iM_enoughWeight iM_worthSum iM_firstRest iM_leastDrawn), (arI rM_tape kM_tape 900 fM_tape), (arI rM_letters kM_letters 8 fM_letters), (arI rM_fresh kM_fresh 287 fM_fresh), (arI rM_read kM_read 90 fM_read)] sz)) 0 0 (va_A [(oc7 oM iM_thrown rM_tape iM_taped iM_size iM_at iM_end iM_token iM_whole iM_nameSize iM_fault iM_place iM_trouble rM_letters iM_failed iM_hasCourt rM_r rM_fresh rM_told rM_read rM_st rM_undone rM_kept iM_undos iM_images rM_fresher iM_fresherSize iM_scale iM_night rM_heardRow rM_cutRow iM_breaths iM_cutMany iM_allBreaths rM_trial rM_words iM_fewestBreaths iM_orderMany iM_orderSum iM_leastOrder rM_often iM_setMany iM_someOf iM_allOf iM_allWeight iM_enoughWeight iM_worthSum iM_firstRest iM_leastDrawn), (arI rM_tape kM_tape 900 fM_tape), (arI rM_letters kM_letters 8 fM_letters), (arI rM_fresh kM_fresh 287 fM_fresh), (arI rM_read kM_read 90 fM_read)] sz) := by
  refine Met.ofW (cc := cX7_unsureLine) (maxL := 4) (ret := none) pnX7 rfl ?_
  intro p e s m args below meth c s₁ B hml hv
  obtain ⟨rfl, hsz, hP, hK, hD0, hE⟩ := hv
  have hx := B.exec
  have hb := B.bytes
  have hr := B.returns
  have hts : ∀ w ∈ wG, w.before ([.ref oM] : List Value).toArray s = true := fun w h => atoms_spec (ws := Cond.code yX7_unsureLine cX7_unsureLine 4 none :: wG) B.pre w (List.mem_cons_of_mem _ h)
  have hown : s.vm.findClass RX7 = some m.cls := own_of B.named rfl
  have hlocks := B.notSynchronized
  subst hsz
  have hD := hD0.self (sz := s.heap.size)
  generalize hAe : va_A [(oc7 oM iM_thrown rM_tape iM_taped iM_size iM_at iM_end iM_token iM_whole iM_nameSize iM_fault iM_place iM_trouble rM_letters iM_failed iM_hasCourt rM_r rM_fresh rM_told rM_read rM_st rM_undone rM_kept iM_undos iM_images rM_fresher iM_fresherSize iM_scale iM_night rM_heardRow rM_cutRow iM_breaths iM_cutMany iM_allBreaths rM_trial rM_words iM_fewestBreaths iM_orderMany iM_orderSum iM_leastOrder rM_often iM_setMany iM_someOf iM_allOf iM_allWeight iM_enoughWeight iM_worthSum iM_firstRest iM_leastDrawn), (arI rM_tape kM_tape 900 fM_tape), (arI rM_letters kM_letters 8 fM_letters), (arI rM_fresh kM_fresh 287 fM_fresh), (arI rM_read kM_read 90 fM_read)] s.heap.size = A at hD hE ⊢
  have hA : ∀ q : Nat, s.heap.size ≤ q → A q := fun q h => by rw [← hAe]; exact Or.inr h
  have hS : va_S A s.heap s.heap [] := va_S.rf
  have hl := lv_entry ([.ref oM]) (n := 4) (Nat.le_of_ble_eq_true rfl)
  rw [lg_entry_eq]
  generalize (lg_sl ([.ref oM]) ++ List.replicate (4 - (lg_sl ([.ref oM])).length) Slot.unset).toArray = ls at hl ⊢
  have hl : lv_has ls 4 [(0, .ref oM)] := hl
  have hG := PX7_unsureLine_eq fM_tape iM_size iM_at iM_end iM_token iM_whole iM_nameSize iM_fault iM_place fM_letters iM_failed fM_fresh
  have pl_fM_fresh := r_P.lins
  refine lv_aload_n hx hb dX7_unsureLine_0 rfl (lv_at hl 0 rfl) ?_
  refine va_get (D := (dC, dI)) (ci := 7) (v := .int iM_failed) (C := RX7) (T := TX7) (N := 48) hx hb hts inX7 hown hK hP 0 rfl rfl 13 (by decide) (hts _ wd_380) (fun _ h9 => h9) rfl dX7_unsureLine_1 ?_
  refine lv_if_eq (tgt := 8) hx hb dX7_unsureLine_4 (by decide) (fun c_5898 => ?_) (fun c_5898 => ?_)
  · skip
    have hG := hG.trans (if_pos c_5898)
    have gc_5898 := ti_eq c_5898 rfl kc_0
    have h_5899 : (fM_fresh 3).toInt ≤ 3 := hul (om_02e9bb08 gc_5898)
    clear hul
    refine lv_bipush (v := 117) hx hb dX7_unsureLine_8 (by decide) ?_
    refine lv_iconst (v := 2) hx hb dX7_unsureLine_10 (by decide) ?_
    refine lv_aload_n hx hb dX7_unsureLine_11 rfl (lv_at hl 0 rfl) ?_
    refine va_get (D := (dC, dI)) (ci := 7) (v := .ref rM_fresh) (C := RX7) (T := TX7) (N := 48) hx hb hts inX7 hown hK hP 0 rfl rfl 16 (by decide) (hts _ wd_156) (fun _ h9 => h9) rfl dX7_unsureLine_12 ?_
    refine lv_iconst (v := 3) hx hb dX7_unsureLine_15 (by decide) ?_
    refine va_iald hx hb hK hP 3 2 rfl rfl (by unfold vp_in; decide) dX7_unsureLine_16 ?_
    refine lv_topi (fun x_5900 ex_5900 => ?_)
    have hG := hG.trans (lt_eq ex_5900)
    have cx_5900 : (fM_fresh 3).toInt = x_5900.toInt := congrArg Int32.toInt (show fM_fresh 3 = x_5900 from ex_5900.symm)
    refine lv_imul hx hb dX7_unsureLine_17 ?_
    refine lv_topi (fun x_5901 ex_5901 => ?_)
    have hG := hG.trans (lt_eq ex_5901)
    have vx_5901 : x_5901.toInt = 2 * x_5900.toInt := ti_mul ex_5901 kc_2 rfl (om_ced40591 pl_fM_fresh.2.2.2.1.1 cx_5900) (om_88ac8d02 pl_fM_fresh.2.2.2.1.2 cx_5900)
    refine lv_iadd hx hb dX7_unsureLine_18 ?_
    refine lv_topi (fun x_5902 ex_5902 => ?_)
    have hG := hG.trans (lt_eq ex_5902)
    have vx_5902 : x_5902.toInt = 2 * x_5900.toInt + 117 := om_67044d60 (ti_add ex_5902 kc_117 vx_5901 (om_530ef2ed pl_fM_fresh.2.2.2.1.1 cx_5900) (om_49eb7f00 pl_fM_fresh.2.2.2.1.2 cx_5900))
    refine lv_istore_n (lv' := [(1, .int x_5902), (0, .ref oM)]) hx hb dX7_unsureLine_19 rfl hl (by decide) rfl (fun ls hl => ?_)
    refine lv_aload_n hx hb dX7_unsureLine_20 rfl (lv_at hl 1 rfl) ?_
    have hMs := ml_of hD [true, false, true, true, true] (wc := [(oc7 oM iM_thrown rM_tape iM_taped iM_size iM_at iM_end iM_token iM_whole iM_nameSize iM_fault iM_place iM_trouble rM_letters iM_failed iM_hasCourt rM_r rM_fresh rM_told rM_read rM_st rM_undone rM_kept iM_undos iM_images rM_fresher iM_fresherSize iM_scale iM_night rM_heardRow rM_cutRow iM_breaths iM_cutMany iM_allBreaths rM_trial rM_words iM_fewestBreaths iM_orderMany iM_orderSum iM_leastOrder rM_often iM_setMany iM_someOf iM_allOf iM_allWeight iM_enoughWeight iM_worthSum iM_firstRest iM_leastDrawn), (arI rM_letters kM_letters 8 fM_letters), (arI rM_fresh kM_fresh 287 fM_fresh), (arI rM_read kM_read 90 fM_read)]) rfl
    have hFc := va_freeM hD hS hA _ hMs
    refine va_calli (va_runV (As := []) (rest := []) ⟨hx, hb, hml, hown, hts⟩ (tX7_nodeHere l dC dI _ oM iM_thrown rM_tape iM_taped iM_size iM_at iM_end iM_token iM_whole iM_nameSize iM_fault iM_place iM_trouble rM_letters fM_letters kM_letters iM_failed iM_hasCourt rM_r rM_fresh fM_fresh kM_fresh rM_told rM_read fM_read kM_read rM_st rM_undone rM_kept iM_undos iM_images rM_fresher iM_fresherSize iM_scale iM_night rM_heardRow rM_cutRow iM_breaths iM_cutMany iM_allBreaths rM_trial rM_words iM_fewestBreaths iM_orderMany iM_orderSum iM_leastOrder rM_often iM_setMany iM_someOf iM_allOf iM_allWeight iM_enoughWeight iM_worthSum iM_firstRest iM_leastDrawn b_iM_taped b_iM_size b_iM_end b_iM_nameSize b_iM_failed b_iM_hasCourt b_iM_undos b_iM_images b_iM_scale b_iM_breaths b_iM_cutMany r_T r_P) (cwV 0 hts (wd_V wd_486 wd_487 wd_488 wd_5 (wd_c wd_489)) rfl rfl rfl dv_yX7_nodeHere_0 ⟨Nat.le_of_ble_eq_true rfl, Nat.le_of_ble_eq_true rfl⟩) ⟨Pw.fb, recvX7 hK hP (q0 := 0) rfl, fun U hU hW => Pw.to (hP.ms _ hMs) (hD.ms _ hMs) (hK.ms [false, true, true, true] rfl) hE hS hFc hU hW⟩ rfl rfl hl.1 rfl (lv_room (Nat.le_of_ble_eq_true rfl)) dX7_unsureLine_21 ⟨Nat.le_of_ble_eq_true rfl, Nat.le_of_ble_eq_true rfl⟩) hS (fun q _ h => hFc q h) hFc (fun r u t H locs ht hvm hw hB hz1 hk1 hS => ?_)
    have hru9 := hw.2
    have hw := hw.1
    refine ex_3_4 hB (fun x_5903 x_5904 x_5905 b_x_5905 e_x_5903_0 e_x_5903_1 e_x_5903_2 hB => ?_)
    obtain ⟨hP, hD⟩ := Bw.goN (ws' := [(oc7 oM iM_thrown rM_tape iM_taped iM_size iM_at iM_end iM_token iM_whole iM_nameSize x_5903 x_5904 iM_trouble rM_letters x_5905 iM_hasCourt rM_r rM_fresh rM_told rM_read rM_st rM_undone rM_kept iM_undos iM_images rM_fresher iM_fresherSize iM_scale iM_night rM_heardRow rM_cutRow iM_breaths iM_cutMany iM_allBreaths rM_trial rM_words iM_fewestBreaths iM_orderMany iM_orderSum iM_leastOrder rM_often iM_setMany iM_someOf iM_allOf iM_allWeight iM_enoughWeight iM_worthSum iM_firstRest iM_leastDrawn), (arI rM_tape kM_tape 900 fM_tape), (arI rM_letters kM_letters 8 fM_letters), (arI rM_fresh kM_fresh 287 fM_fresh), (arI rM_read kM_read 90 fM_read)]) hB rfl ht hP hD _ hMs hk1 hFc rfl
    clear hz1 hk1 hvm ht hB hMs
    rw [← hru9] at e_x_5903_2
    obtain ⟨x_5906, rfl⟩ : ∃ z, z = r := ⟨_, rfl⟩
    have hG := hG.trans (un4_eq e_x_5903_2)
    have lx_5906 := hw.2
    have ux_5906 := hw.2
    refine lv_istore_n (lv' := [(2, .int x_5906), (1, .int x_5902), (0, .ref oM)]) hx hb dX7_unsureLine_24 rfl hl (by decide) rfl (fun ls hl => ?_)
    refine lv_aload_n hx hb dX7_unsureLine_25 rfl (lv_at hl 2 rfl) ?_
    refine va_get (D := (dC, dI)) (ci := 7) (v := .int x_5905) (C := RX7) (T := TX7) (N := 48) hx hb hts inX7 hown hK hP 0 rfl rfl 13 (by decide) (hts _ wd_380) (fun _ h9 => h9) rfl dX7_unsureLine_26 ?_
    refine lv_if_ne (tgt := 53) hx hb dX7_unsureLine_29 (by decide) (fun c_5907 => ?_) (fun c_5907 => ?_)
    · skip
      have hG := hG.trans (if_neg c_5907)
      have gc_5907 := ti_ne c_5907 rfl kc_0
      replace gc_5907 : (-1) * x_5905.toInt + 1 ≤ 0 := om_e3003f79 gc_5907 b_x_5905.1
      clear e_x_5903_1
      refine lv_iconst (v := 0) hx hb dX7_unsureLine_53 (by decide) ?_
      refine lv_istore_n (lv' := [(3, .int 0), (2, .int x_5906), (1, .int x_5902), (0, .ref oM)]) hx hb dX7_unsureLine_54 rfl hl (by decide) rfl (fun ls hl => ?_)
      have hl := lv_sub hl (l' := [(3, .int 0), (2, .int x_5906), (1, .int x_5902), (0, .ref oM)]) [0, 1, 2, 3] rfl
      have key_n_5912 : ∀ (n_5912 : Nat) (z_5908 : Int32) (z_5909 : Int32) (z_5910 : Int32) (z_5911 : Int32) (H : Heap) (locs : List Loc) (ls : Array Slot), (0 ≤ z_5909.toInt ∧ z_5909.toInt ≤ 1) → (0 ≤ z_5908.toInt ∧ z_5908.toInt ≤ 4) → (x_5905.toInt ≤ z_5909.toInt) → (4 - z_5908.toInt).toNat < n_5912 → (PX7_unsureLine fM_tape iM_size iM_at iM_end iM_token iM_whole iM_nameSize iM_fault iM_place fM_letters iM_failed fM_fresh = HX7_unsureLine_1 fM_tape iM_size iM_at iM_end iM_token iM_whole iM_nameSize fM_letters fM_fresh n_5912 z_5908 z_5909 z_5910 z_5911) → va_P (dC, dI) vwCl [(oc7 oM iM_thrown rM_tape iM_taped iM_size iM_at iM_end iM_token iM_whole iM_nameSize z_5910 z_5911 iM_trouble rM_letters z_5909 iM_hasCourt rM_r rM_fresh rM_told rM_read rM_st rM_undone rM_kept iM_undos iM_images rM_fresher iM_fresherSize iM_scale iM_night rM_heardRow rM_cutRow iM_breaths iM_cutMany iM_allBreaths rM_trial rM_words iM_fewestBreaths iM_orderMany iM_orderSum iM_leastOrder rM_often iM_setMany iM_someOf iM_allOf iM_allWeight iM_enoughWeight iM_worthSum iM_firstRest iM_leastDrawn), (arI rM_tape kM_tape 900 fM_tape), (arI rM_letters kM_letters 8 fM_letters), (arI rM_fresh kM_fresh 287 fM_fresh), (arI rM_read kM_read 90 fM_read)] H → va_D A [(oc7 oM iM_thrown rM_tape iM_taped iM_size iM_at iM_end iM_token iM_whole iM_nameSize z_5910 z_5911 iM_trouble rM_letters z_5909 iM_hasCourt rM_r rM_fresh rM_told rM_read rM_st rM_undone rM_kept iM_undos iM_images rM_fresher iM_fresherSize iM_scale iM_night rM_heardRow rM_cutRow iM_breaths iM_cutMany iM_allBreaths rM_trial rM_words iM_fewestBreaths iM_orderMany iM_orderSum iM_leastOrder rM_often iM_setMany iM_someOf iM_allOf iM_allWeight iM_enoughWeight iM_worthSum iM_firstRest iM_leastDrawn), (arI rM_tape kM_tape 900 fM_tape), (arI rM_letters kM_letters 8 fM_letters), (arI rM_fresh kM_fresh 287 fM_fresh), (arI rM_read kM_read 90 fM_read)] → va_S A s.heap H locs → lv_has ls 4 [(3, .int z_5908), (2, .int x_5906), (1, .int x_5902), (0, .ref oM)] → W p l e (headSpec (Cond.code yX7_unsureLine cX7_unsureLine 4 none :: wG) ({ frames := 7, cells := 0, slots := 0, locals := 175 })).room s m ([.ref oM] : List Value).toArray below meth c H locs 0 0 (MQ below (va_Qv (fun (_ : Nat) => True) (fun (_ : Nat) (t : State) => ∃ (niM_at : Int32) (niM_end : Int32) (niM_token : Int32) (niM_whole : Int32) (niM_nameSize : Int32) (niM_fault : Int32) (niM_place : Int32) (niM_failed : Int32) (nfM_letters : Nat → Int32) (nfM_fresh : Nat → Int32), (0 ≤ niM_end.toInt ∧ niM_end.toInt ≤ 900) ∧ (0 ≤ niM_nameSize.toInt ∧ niM_nameSize.toInt ≤ 900) ∧ (0 ≤ niM_failed.toInt ∧ niM_failed.toInt ≤ 1) ∧ (iM_end.toInt ≤ niM_end.toInt) ∧ (ImpP (niM_token.toInt = 2) (niM_nameSize.toInt ≤ 8)) ∧ (iM_failed.toInt ≤ niM_failed.toInt) ∧ (ImpP (niM_failed.toInt ≤ 0 ∧ niM_token.toInt = 59 ) (iM_end.toInt + 1 ≤ niM_end.toInt)) ∧ (POk nfM_fresh fM_read) ∧ (PX7_unsureLine fM_tape iM_size iM_at iM_end iM_token iM_whole iM_nameSize iM_fault iM_place fM_letters iM_failed fM_fresh = (niM_at, niM_end, niM_token, niM_whole, niM_nameSize, niM_fault, niM_place, niM_failed, nfM_letters, nfM_fresh)) ∧ Bw dC dI A [(oc7 oM iM_thrown rM_tape iM_taped iM_size niM_at niM_end niM_token niM_whole niM_nameSize niM_fault niM_place iM_trouble rM_letters niM_failed iM_hasCourt rM_r rM_fresh rM_told rM_read rM_st rM_undone rM_kept iM_undos iM_images rM_fresher iM_fresherSize iM_scale iM_night rM_heardRow rM_cutRow iM_breaths iM_cutMany iM_allBreaths rM_trial rM_words iM_fewestBreaths iM_orderMany iM_orderSum iM_leastOrder rM_often iM_setMany iM_someOf iM_allOf iM_allWeight iM_enoughWeight iM_worthSum iM_firstRest iM_leastDrawn), (arI rM_tape kM_tape 900 fM_tape), (arI rM_letters kM_letters 8 nfM_letters), (arI rM_fresh kM_fresh 287 nfM_fresh), (arI rM_read kM_read 90 fM_read)] [(kM_tape, .int), (kM_letters, .int), (kM_fresh, .int), (kM_read, .int)] t) A) ([.ref oM] : List Value).toArray s 0 0 A) (F0 m 55 ls []) := by
        intro n_5912
        induction n_5912 with
        | zero => intro z_5908 z_5909 z_5910 z_5911 H locs ls b_z_5909 hi0_n_5912 hi1_n_5912 hm; exact absurd hm (Nat.not_lt_zero _)
        | succ n_5912 ih_n_5912 =>
          intro z_5908 z_5909 z_5910 z_5911 H locs ls b_z_5909 hi0_n_5912 hi1_n_5912 hm_n_5912 hG hP hD hS hl
          have hG := hG.trans (HX7_unsureLine_1_eq _ _ _ _ _ _ _ _ _ _ _ _ _ _)
          refine lv_iload_n hx hb dX7_unsureLine_55 rfl (lv_at hl 0 rfl) ?_
          refine lv_aload_n hx hb dX7_unsureLine_56 rfl (lv_at hl 3 rfl) ?_
          refine va_get (D := (dC, dI)) (ci := 7) (v := .ref rM_fresh) (C := RX7) (T := TX7) (N := 48) hx hb hts inX7 hown hK hP 0 rfl rfl 16 (by decide) (hts _ wd_156) (fun _ h9 => h9) rfl dX7_unsureLine_57 ?_
          refine lv_iconst (v := 3) hx hb dX7_unsureLine_60 (by decide) ?_
          refine va_iald hx hb hK hP 3 2 rfl rfl (by unfold vp_in; decide) dX7_unsureLine_61 ?_
          refine lv_topi (fun x_5913 ex_5913 => ?_)
          have hG := hG.trans (lt_eq ex_5913)
          have cx_5913 : (fM_fresh 3).toInt = x_5913.toInt := congrArg Int32.toInt (show fM_fresh 3 = x_5913 from ex_5913.symm)
          refine lv_icmp_ge (tgt := 102) hx hb dX7_unsureLine_62 (by decide) (fun c_5914 => ?_) (fun c_5914 => ?_)
          · skip
            have hG := hG.trans (if_pos c_5914)
            have gc_5914 := ti_le c_5914 rfl rfl
            refine lv_aload_n hx hb dX7_unsureLine_102 rfl (lv_at hl 3 rfl) ?_
            have hMs := ml_of hD [true, true, true, false, false] (wc := [(oc7 oM iM_thrown rM_tape iM_taped iM_size iM_at iM_end iM_token iM_whole iM_nameSize z_5910 z_5911 iM_trouble rM_letters z_5909 iM_hasCourt rM_r rM_fresh rM_told rM_read rM_st rM_undone rM_kept iM_undos iM_images rM_fresher iM_fresherSize iM_scale iM_night rM_heardRow rM_cutRow iM_breaths iM_cutMany iM_allBreaths rM_trial rM_words iM_fewestBreaths iM_orderMany iM_orderSum iM_leastOrder rM_often iM_setMany iM_someOf iM_allOf iM_allWeight iM_enoughWeight iM_worthSum iM_firstRest iM_leastDrawn), (arI rM_tape kM_tape 900 fM_tape), (arI rM_letters kM_letters 8 fM_letters)]) rfl
            have hFc := va_freeM hD hS hA _ hMs
            refine va_callv (va_runV (As := []) (rest := []) ⟨hx, hb, hml, hown, hts⟩ (tX7_pass l dC dI _ oM iM_thrown rM_tape fM_tape kM_tape iM_taped iM_size iM_at iM_end iM_token iM_whole iM_nameSize z_5910 z_5911 iM_trouble rM_letters fM_letters kM_letters z_5909 iM_hasCourt rM_r rM_fresh rM_told rM_read rM_st rM_undone rM_kept iM_undos iM_images rM_fresher iM_fresherSize iM_scale iM_night rM_heardRow rM_cutRow iM_breaths iM_cutMany iM_allBreaths rM_trial rM_words iM_fewestBreaths iM_orderMany iM_orderSum iM_leastOrder rM_often iM_setMany iM_someOf iM_allOf iM_allWeight iM_enoughWeight iM_worthSum iM_firstRest iM_leastDrawn b_iM_taped b_iM_size b_iM_end b_iM_nameSize b_z_5909 b_iM_hasCourt b_iM_undos b_iM_images b_iM_scale b_iM_breaths b_iM_cutMany r_T) (cwV 0 hts (wd_V wd_454 wd_455 wd_456 wd_5 (wd_c wd_457)) rfl rfl rfl dv_yX7_pass_0 ⟨Nat.le_of_ble_eq_true rfl, Nat.le_of_ble_eq_true rfl⟩) ⟨Pw.fb, recvX7 hK hP (q0 := 0) rfl, fun U hU hW => Pw.to (hP.ms _ hMs) (hD.ms _ hMs) (hK.ms [true, true, false, false] rfl) hE hS hFc hU hW⟩ rfl rfl hl.1 rfl (lv_room (Nat.le_of_ble_eq_true rfl)) dX7_unsureLine_103 ⟨Nat.le_of_ble_eq_true rfl, Nat.le_of_ble_eq_true rfl⟩) hS (fun q _ h => hFc q h) hFc (fun u t H locs ht hvm hw hB hz1 hk1 hS => ?_)
            refine ex_6_6 hB (fun x_5915 x_5916 x_5917 x_5918 x_5919 f_5920 b_x_5916 b_x_5919 e_x_5915_0 e_x_5915_1 e_x_5915_2 e_x_5915_3 hB => ?_)
            obtain ⟨hP, hD⟩ := Bw.goN (ws' := [(oc7 oM iM_thrown rM_tape iM_taped iM_size x_5915 x_5916 x_5917 x_5918 x_5919 z_5910 z_5911 iM_trouble rM_letters z_5909 iM_hasCourt rM_r rM_fresh rM_told rM_read rM_st rM_undone rM_kept iM_undos iM_images rM_fresher iM_fresherSize iM_scale iM_night rM_heardRow rM_cutRow iM_breaths iM_cutMany iM_allBreaths rM_trial rM_words iM_fewestBreaths iM_orderMany iM_orderSum iM_leastOrder rM_often iM_setMany iM_someOf iM_allOf iM_allWeight iM_enoughWeight iM_worthSum iM_firstRest iM_leastDrawn), (arI rM_tape kM_tape 900 fM_tape), (arI rM_letters kM_letters 8 f_5920), (arI rM_fresh kM_fresh 287 fM_fresh), (arI rM_read kM_read 90 fM_read)]) hB rfl ht hP hD _ hMs hk1 hFc rfl
            clear hz1 hk1 hvm ht hB hMs
            have hG := hG.trans (un6_eq e_x_5915_3)
            clear r_T
            refine lv_aload_n hx hb dX7_unsureLine_106 rfl (lv_at hl 3 rfl) ?_
            refine lv_iconst (v := 0) hx hb dX7_unsureLine_107 (by decide) ?_
            refine lv_bipush (v := 99) hx hb dX7_unsureLine_108 (by decide) ?_
            have hMs := ml_of hD [true, true, true, false, false] (wc := [(oc7 oM iM_thrown rM_tape iM_taped iM_size x_5915 x_5916 x_5917 x_5918 x_5919 z_5910 z_5911 iM_trouble rM_letters z_5909 iM_hasCourt rM_r rM_fresh rM_told rM_read rM_st rM_undone rM_kept iM_undos iM_images rM_fresher iM_fresherSize iM_scale iM_night rM_heardRow rM_cutRow iM_breaths iM_cutMany iM_allBreaths rM_trial rM_words iM_fewestBreaths iM_orderMany iM_orderSum iM_leastOrder rM_often iM_setMany iM_someOf iM_allOf iM_allWeight iM_enoughWeight iM_worthSum iM_firstRest iM_leastDrawn), (arI rM_tape kM_tape 900 fM_tape), (arI rM_letters kM_letters 8 f_5920)]) rfl
            have hFc := va_freeM hD hS hA _ hMs
            refine va_calli (va_runV (As := [.int 0, .int 99]) (rest := []) ⟨hx, hb, hml, hown, hts⟩ (tX7_number l dC dI _ oM iM_thrown rM_tape fM_tape kM_tape iM_taped iM_size x_5915 x_5916 x_5917 x_5918 x_5919 z_5910 z_5911 iM_trouble rM_letters f_5920 kM_letters z_5909 iM_hasCourt rM_r rM_fresh rM_told rM_read rM_st rM_undone rM_kept iM_undos iM_images rM_fresher iM_fresherSize iM_scale iM_night rM_heardRow rM_cutRow iM_breaths iM_cutMany iM_allBreaths rM_trial rM_words iM_fewestBreaths iM_orderMany iM_orderSum iM_leastOrder rM_often iM_setMany iM_someOf iM_allOf iM_allWeight iM_enoughWeight iM_worthSum iM_firstRest iM_leastDrawn 0 99 b_iM_taped b_iM_size b_x_5916 b_x_5919 b_z_5909 b_iM_hasCourt b_iM_undos b_iM_images b_iM_scale b_iM_breaths b_iM_cutMany e_x_5915_1 (om_b0b40937 kc_0 kc_99)) (cwV 2 hts (wd_V wd_446 wd_447 wd_448 wd_5 (wd_c wd_449)) rfl rfl rfl dv_yX7_number_2 ⟨Nat.le_of_ble_eq_true rfl, Nat.le_of_ble_eq_true rfl⟩) ⟨Pw.fb, recvX7 hK hP (q0 := 0) rfl, fun U hU hW => Pw.to (hP.ms _ hMs) (hD.ms _ hMs) (hK.ms [true, true, false, false] rfl) hE hS hFc hU hW⟩ rfl rfl hl.1 rfl (lv_room (Nat.le_of_ble_eq_true rfl)) dX7_unsureLine_110 ⟨Nat.le_of_ble_eq_true rfl, Nat.le_of_ble_eq_true rfl⟩) hS (fun q _ h => hFc q h) hFc (fun r u t H locs ht hvm hw hB hz1 hk1 hS => ?_)
            have hru9 := hw.2
            have hw := hw.1
            refine ex_9_8 hB (fun x_5921 x_5922 x_5923 x_5924 x_5925 x_5926 x_5927 x_5928 f_5929 b_x_5922 b_x_5925 b_x_5928 e_x_5921_0 e_x_5921_1 e_x_5921_2 e_x_5921_3 e_x_5921_4 hB => ?_)
            obtain ⟨hP, hD⟩ := Bw.goN (ws' := [(oc7 oM iM_thrown rM_tape iM_taped iM_size x_5921 x_5922 x_5923 x_5924 x_5925 x_5926 x_5927 iM_trouble rM_letters x_5928 iM_hasCourt rM_r rM_fresh rM_told rM_read rM_st rM_undone rM_kept iM_undos iM_images rM_fresher iM_fresherSize iM_scale iM_night rM_heardRow rM_cutRow iM_breaths iM_cutMany iM_allBreaths rM_trial rM_words iM_fewestBreaths iM_orderMany iM_orderSum iM_leastOrder rM_often iM_setMany iM_someOf iM_allOf iM_allWeight iM_enoughWeight iM_worthSum iM_firstRest iM_leastDrawn), (arI rM_tape kM_tape 900 fM_tape), (arI rM_letters kM_letters 8 f_5929), (arI rM_fresh kM_fresh 287 fM_fresh), (arI rM_read kM_read 90 fM_read)]) hB rfl ht hP hD _ hMs hk1 hFc rfl
            clear hz1 hk1 hvm ht hB hMs
            rw [← hru9] at e_x_5921_4
            obtain ⟨x_5930, rfl⟩ : ∃ z, z = r := ⟨_, rfl⟩
            have hG := hG.trans (un10_eq e_x_5921_4)
            have lx_5930 := hw.2
            have kl_0 := kc_0
            have kl_99 := kc_99
            clear e_x_5915_1
            clear e_x_5915_2
            refine lv_istore_n (lv' := [(3, .int x_5930), (2, .int x_5906), (1, .int x_5902), (0, .ref oM)]) hx hb dX7_unsureLine_113 rfl hl (by decide) rfl (fun ls hl => ?_)
            refine lv_aload_n hx hb dX7_unsureLine_114 rfl (lv_at hl 3 rfl) ?_
            refine va_get (D := (dC, dI)) (ci := 7) (v := .int x_5928) (C := RX7) (T := TX7) (N := 48) hx hb hts inX7 hown hK hP 0 rfl rfl 13 (by decide) (hts _ wd_380) (fun _ h9 => h9) rfl dX7_unsureLine_115 ?_
            refine lv_if_eq (tgt := 122) hx hb dX7_unsureLine_118 (by decide) (fun c_5931 => ?_) (fun c_5931 => ?_)
            · skip
              have hG := hG.trans (if_pos c_5931)
              have gc_5931 := ti_eq c_5931 rfl kc_0
              exact ((om_2e318dd7 gc_5907 hi1_n_5912 e_x_5921_2 gc_5931)).elim
            · skip
              have hG := hG.trans (if_neg c_5931)
              have gc_5931 := ti_ne c_5931 rfl kc_0
              replace gc_5931 : (-1) * x_5928.toInt + 1 ≤ 0 := om_e3003f79 gc_5931 b_x_5928.1
              exact wq_v hx hb hr 0 trivial (fun t ht hW => ⟨x_5921, x_5922, x_5923, x_5924, x_5925, x_5926, x_5927, x_5928, f_5929, fM_fresh, b_x_5922, b_x_5925, b_x_5928, (om_9348f5ae e_x_5915_0 e_x_5921_0), e_x_5921_1, (om_1fc3dec6 gc_5898 b_x_5928.1), (fun h9 => False.elim (om_a5fe015d gc_5931 h9.1)), r_P, hG, Bw.to hP hD hK ht hW⟩) hS dX7_unsureLine_121 hlocks
          · skip
            have hG := hG.trans (if_neg c_5914)
            have gc_5914 := ti_nle c_5914 rfl rfl
            refine lv_aload_n hx hb dX7_unsureLine_65 rfl (lv_at hl 3 rfl) ?_
            refine va_get (D := (dC, dI)) (ci := 7) (v := .int z_5909) (C := RX7) (T := TX7) (N := 48) hx hb hts inX7 hown hK hP 0 rfl rfl 13 (by decide) (hts _ wd_380) (fun _ h9 => h9) rfl dX7_unsureLine_66 ?_
            refine lv_if_ne (tgt := 96) hx hb dX7_unsureLine_69 (by decide) (fun c_5932 => ?_) (fun c_5932 => ?_)
            · skip
              have hG := hG.trans (if_neg c_5932)
              have gc_5932 := ti_ne c_5932 rfl kc_0
              replace gc_5932 : (-1) * z_5909.toInt + 1 ≤ 0 := om_e3003f79 gc_5932 b_z_5909.1
              obtain ⟨x_5933, ex_5933⟩ : ∃ z : Int32, z = z_5908 + Int32.ofInt 1 := ⟨_, rfl⟩
              have hG := hG.trans (lt_eq ex_5933)
              have vx_5933 : x_5933.toInt = z_5908.toInt + 1 := ti_add (y := 1) ex_5933 rfl kc_1 (om_4e4fce7e hi0_n_5912.1) (om_bae2951a hi0_n_5912.2)
              refine lv_iinc (v := x_5933) (lv' := [(3, .int x_5933), (2, .int x_5906), (1, .int x_5902), (0, .ref oM)]) hx hb dX7_unsureLine_96 hl (k := 0) rfl ex_5933.symm (by decide) rfl (fun ls hl => ?_)
              refine lv_goto (tgt := 55) hx hb dX7_unsureLine_99 (by decide) ?_
              exact ih_n_5912 x_5933 z_5909 z_5910 z_5911 _ _ _ b_z_5909 ⟨(om_83b90de5 hi0_n_5912.1 vx_5933), (om_8267bec5 pl_fM_fresh.2.2.2.1.2 cx_5913 gc_5914 vx_5933)⟩ hi1_n_5912 (ms_lt hm_n_5912 (om_ed22490e vx_5933) (om_e4be4046 pl_fM_fresh.2.2.2.1.2 cx_5913 gc_5914)) hG hP hD hS (lv_sub hl [0, 1, 2, 3] rfl)
            · skip
              have hG := hG.trans (if_pos c_5932)
              have gc_5932 := ti_eq c_5932 rfl kc_0
              exact ((om_30d40e72 gc_5907 hi1_n_5912 gc_5932)).elim
      exact key_n_5912 (((4 - (0 : Int32).toInt).toNat) + 1) 0 x_5905 x_5903 x_5904 _ _ _ b_x_5905 ⟨(om_b1de7dbe kc_0), (om_bebe011a kc_0)⟩ om_1cb5f934 (Nat.lt_add_one _) hG hP hD hS hl
    · skip
      have hG := hG.trans (if_pos c_5907)
      have gc_5907 := ti_eq c_5907 rfl kc_0
      have h_5934 : 1 ≤ (fM_fresh 1).toInt := e_x_5903_1 (om_02e9bb08 gc_5907)
      clear e_x_5903_1
      have h_5935 : x_5906.toInt < (fM_fresh 1).toInt := lx_5906.2.1 h_5934
      refine lv_aload_n hx hb dX7_unsureLine_32 rfl (lv_at hl 2 rfl) ?_
      refine va_get (D := (dC, dI)) (ci := 7) (v := .ref rM_fresh) (C := RX7) (T := TX7) (N := 48) hx hb hts inX7 hown hK hP 0 rfl rfl 16 (by decide) (hts _ wd_156) (fun _ h9 => h9) rfl dX7_unsureLine_33 ?_
      refine lv_bipush (v := 9) hx hb dX7_unsureLine_36 (by decide) ?_
      refine lv_iload_n hx hb dX7_unsureLine_38 rfl (lv_at hl 0 rfl) ?_
      refine lv_iadd hx hb dX7_unsureLine_39 ?_
      refine lv_topi (fun x_5936 ex_5936 => ?_)
      have hG := hG.trans (lt_eq ex_5936)
      have vx_5936 : x_5936.toInt = x_5906.toInt + 9 := om_296ce4dd (ti_add ex_5936 kc_9 rfl (om_090bbef4 lx_5906.1) (om_04280604 lx_5906.2.2))
      refine va_iald hx hb hK hP 3 2 rfl rfl (ti_in vx_5936 (om_edbe2e4c lx_5906.1) (om_60db842a lx_5906.2.2)) dX7_unsureLine_40 ?_
      refine lv_topi (fun x_5937 ex_5937 => ?_)
      have hG := hG.trans (lt_eq ex_5937)
      have kx_5937 : (fM_fresh x_5936.toNatClampNeg).toInt = x_5937.toInt := by rw [ex_5937]
      have cx_5937 : (fM_fresh (9 + x_5906.toNatClampNeg)).toInt = x_5937.toInt := by rw [show 9 + x_5906.toNatClampNeg = x_5936.toNatClampNeg from (om_32f1c3e7 (ti_cl (x := x_5906) rfl lx_5906.1) (ti_cl (x := x_5936) vx_5936 (om_edbe2e4c lx_5906.1)))]; exact kx_5937
      refine lv_if_eq (tgt := 53) hx hb dX7_unsureLine_41 (by decide) (fun c_5938 => ?_) (fun c_5938 => ?_)
      · skip
        have hG := hG.trans (if_pos c_5938)
        have gc_5938 := ti_eq c_5938 rfl kc_0
        refine lv_iconst (v := 0) hx hb dX7_unsureLine_53 (by decide) ?_
        refine lv_istore_n (lv' := [(3, .int 0), (2, .int x_5906), (1, .int x_5902), (0, .ref oM)]) hx hb dX7_unsureLine_54 rfl hl (by decide) rfl (fun ls hl => ?_)
        have hl := lv_sub hl (l' := [(3, .int 0), (2, .int x_5906), (1, .int x_5902), (0, .ref oM)]) [0, 1, 2, 3] rfl
        have key_n_5943 : ∀ (n_5943 : Nat) (z_5939 : Int32) (z_5940 : Int32) (z_5941 : Int32) (z_5942 : Int32) (H : Heap) (locs : List Loc) (ls : Array Slot), (0 ≤ z_5940.toInt ∧ z_5940.toInt ≤ 1) → (0 ≤ z_5939.toInt ∧ z_5939.toInt ≤ 4) → (x_5905.toInt ≤ z_5940.toInt) → (4 - z_5939.toInt).toNat < n_5943 → (PX7_unsureLine fM_tape iM_size iM_at iM_end iM_token iM_whole iM_nameSize iM_fault iM_place fM_letters iM_failed fM_fresh = HX7_unsureLine_0 fM_tape iM_size iM_at iM_end iM_token iM_whole iM_nameSize fM_letters fM_fresh x_5902 x_5906 n_5943 z_5939 z_5940 z_5941 z_5942) → va_P (dC, dI) vwCl [(oc7 oM iM_thrown rM_tape iM_taped iM_size iM_at iM_end iM_token iM_whole iM_nameSize z_5941 z_5942 iM_trouble rM_letters z_5940 iM_hasCourt rM_r rM_fresh rM_told rM_read rM_st rM_undone rM_kept iM_undos iM_images rM_fresher iM_fresherSize iM_scale iM_night rM_heardRow rM_cutRow iM_breaths iM_cutMany iM_allBreaths rM_trial rM_words iM_fewestBreaths iM_orderMany iM_orderSum iM_leastOrder rM_often iM_setMany iM_someOf iM_allOf iM_allWeight iM_enoughWeight iM_worthSum iM_firstRest iM_leastDrawn), (arI rM_tape kM_tape 900 fM_tape), (arI rM_letters kM_letters 8 fM_letters), (arI rM_fresh kM_fresh 287 fM_fresh), (arI rM_read kM_read 90 fM_read)] H → va_D A [(oc7 oM iM_thrown rM_tape iM_taped iM_size iM_at iM_end iM_token iM_whole iM_nameSize z_5941 z_5942 iM_trouble rM_letters z_5940 iM_hasCourt rM_r rM_fresh rM_told rM_read rM_st rM_undone rM_kept iM_undos iM_images rM_fresher iM_fresherSize iM_scale iM_night rM_heardRow rM_cutRow iM_breaths iM_cutMany iM_allBreaths rM_trial rM_words iM_fewestBreaths iM_orderMany iM_orderSum iM_leastOrder rM_often iM_setMany iM_someOf iM_allOf iM_allWeight iM_enoughWeight iM_worthSum iM_firstRest iM_leastDrawn), (arI rM_tape kM_tape 900 fM_tape), (arI rM_letters kM_letters 8 fM_letters), (arI rM_fresh kM_fresh 287 fM_fresh), (arI rM_read kM_read 90 fM_read)] → va_S A s.heap H locs → lv_has ls 4 [(3, .int z_5939), (2, .int x_5906), (1, .int x_5902), (0, .ref oM)] → W p l e (headSpec (Cond.code yX7_unsureLine cX7_unsureLine 4 none :: wG) ({ frames := 7, cells := 0, slots := 0, locals := 175 })).room s m ([.ref oM] : List Value).toArray below meth c H locs 0 0 (MQ below (va_Qv (fun (_ : Nat) => True) (fun (_ : Nat) (t : State) => ∃ (niM_at : Int32) (niM_end : Int32) (niM_token : Int32) (niM_whole : Int32) (niM_nameSize : Int32) (niM_fault : Int32) (niM_place : Int32) (niM_failed : Int32) (nfM_letters : Nat → Int32) (nfM_fresh : Nat → Int32), (0 ≤ niM_end.toInt ∧ niM_end.toInt ≤ 900) ∧ (0 ≤ niM_nameSize.toInt ∧ niM_nameSize.toInt ≤ 900) ∧ (0 ≤ niM_failed.toInt ∧ niM_failed.toInt ≤ 1) ∧ (iM_end.toInt ≤ niM_end.toInt) ∧ (ImpP (niM_token.toInt = 2) (niM_nameSize.toInt ≤ 8)) ∧ (iM_failed.toInt ≤ niM_failed.toInt) ∧ (ImpP (niM_failed.toInt ≤ 0 ∧ niM_token.toInt = 59 ) (iM_end.toInt + 1 ≤ niM_end.toInt)) ∧ (POk nfM_fresh fM_read) ∧ (PX7_unsureLine fM_tape iM_size iM_at iM_end iM_token iM_whole iM_nameSize iM_fault iM_place fM_letters iM_failed fM_fresh = (niM_at, niM_end, niM_token, niM_whole, niM_nameSize, niM_fault, niM_place, niM_failed, nfM_letters, nfM_fresh)) ∧ Bw dC dI A [(oc7 oM iM_thrown rM_tape iM_taped iM_size niM_at niM_end niM_token niM_whole niM_nameSize niM_fault niM_place iM_trouble rM_letters niM_failed iM_hasCourt rM_r rM_fresh rM_told rM_read rM_st rM_undone rM_kept iM_undos iM_images rM_fresher iM_fresherSize iM_scale iM_night rM_heardRow rM_cutRow iM_breaths iM_cutMany iM_allBreaths rM_trial rM_words iM_fewestBreaths iM_orderMany iM_orderSum iM_leastOrder rM_often iM_setMany iM_someOf iM_allOf iM_allWeight iM_enoughWeight iM_worthSum iM_firstRest iM_leastDrawn), (arI rM_tape kM_tape 900 fM_tape), (arI rM_letters kM_letters 8 nfM_letters), (arI rM_fresh kM_fresh 287 nfM_fresh), (arI rM_read kM_read 90 fM_read)] [(kM_tape, .int), (kM_letters, .int), (kM_fresh, .int), (kM_read, .int)] t) A) ([.ref oM] : List Value).toArray s 0 0 A) (F0 m 55 ls []) := by
          intro n_5943
          induction n_5943 with
          | zero => intro z_5939 z_5940 z_5941 z_5942 H locs ls b_z_5940 hi0_n_5943 hi1_n_5943 hm; exact absurd hm (Nat.not_lt_zero _)
          | succ n_5943 ih_n_5943 =>
            intro z_5939 z_5940 z_5941 z_5942 H locs ls b_z_5940 hi0_n_5943 hi1_n_5943 hm_n_5943 hG hP hD hS hl
            have hG := hG.trans (HX7_unsureLine_0_eq _ _ _ _ _ _ _ _ _ _ _ _ _ _ _ _)
            refine lv_iload_n hx hb dX7_unsureLine_55 rfl (lv_at hl 0 rfl) ?_
            refine lv_aload_n hx hb dX7_unsureLine_56 rfl (lv_at hl 3 rfl) ?_
            refine va_get (D := (dC, dI)) (ci := 7) (v := .ref rM_fresh) (C := RX7) (T := TX7) (N := 48) hx hb hts inX7 hown hK hP 0 rfl rfl 16 (by decide) (hts _ wd_156) (fun _ h9 => h9) rfl dX7_unsureLine_57 ?_
            refine lv_iconst (v := 3) hx hb dX7_unsureLine_60 (by decide) ?_
            refine va_iald hx hb hK hP 3 2 rfl rfl (by unfold vp_in; decide) dX7_unsureLine_61 ?_
            refine lv_topi (fun x_5944 ex_5944 => ?_)
            have hG := hG.trans (lt_eq ex_5944)
            have cx_5944 : (fM_fresh 3).toInt = x_5944.toInt := congrArg Int32.toInt (show fM_fresh 3 = x_5944 from ex_5944.symm)
            refine lv_icmp_ge (tgt := 102) hx hb dX7_unsureLine_62 (by decide) (fun c_5945 => ?_) (fun c_5945 => ?_)
            · skip
              have hG := hG.trans (if_pos c_5945)
              have gc_5945 := ti_le c_5945 rfl rfl
              refine lv_aload_n hx hb dX7_unsureLine_102 rfl (lv_at hl 3 rfl) ?_
              have hMs := ml_of hD [true, true, true, false, false] (wc := [(oc7 oM iM_thrown rM_tape iM_taped iM_size iM_at iM_end iM_token iM_whole iM_nameSize z_5941 z_5942 iM_trouble rM_letters z_5940 iM_hasCourt rM_r rM_fresh rM_told rM_read rM_st rM_undone rM_kept iM_undos iM_images rM_fresher iM_fresherSize iM_scale iM_night rM_heardRow rM_cutRow iM_breaths iM_cutMany iM_allBreaths rM_trial rM_words iM_fewestBreaths iM_orderMany iM_orderSum iM_leastOrder rM_often iM_setMany iM_someOf iM_allOf iM_allWeight iM_enoughWeight iM_worthSum iM_firstRest iM_leastDrawn), (arI rM_tape kM_tape 900 fM_tape), (arI rM_letters kM_letters 8 fM_letters)]) rfl
              have hFc := va_freeM hD hS hA _ hMs
              refine va_callv (va_runV (As := []) (rest := []) ⟨hx, hb, hml, hown, hts⟩ (tX7_pass l dC dI _ oM iM_thrown rM_tape fM_tape kM_tape iM_taped iM_size iM_at iM_end iM_token iM_whole iM_nameSize z_5941 z_5942 iM_trouble rM_letters fM_letters kM_letters z_5940 iM_hasCourt rM_r rM_fresh rM_told rM_read rM_st rM_undone rM_kept iM_undos iM_images rM_fresher iM_fresherSize iM_scale iM_night rM_heardRow rM_cutRow iM_breaths iM_cutMany iM_allBreaths rM_trial rM_words iM_fewestBreaths iM_orderMany iM_orderSum iM_leastOrder rM_often iM_setMany iM_someOf iM_allOf iM_allWeight iM_enoughWeight iM_worthSum iM_firstRest iM_leastDrawn b_iM_taped b_iM_size b_iM_end b_iM_nameSize b_z_5940 b_iM_hasCourt b_iM_undos b_iM_images b_iM_scale b_iM_breaths b_iM_cutMany r_T) (cwV 0 hts (wd_V wd_454 wd_455 wd_456 wd_5 (wd_c wd_457)) rfl rfl rfl dv_yX7_pass_0 ⟨Nat.le_of_ble_eq_true rfl, Nat.le_of_ble_eq_true rfl⟩) ⟨Pw.fb, recvX7 hK hP (q0 := 0) rfl, fun U hU hW => Pw.to (hP.ms _ hMs) (hD.ms _ hMs) (hK.ms [true, true, false, false] rfl) hE hS hFc hU hW⟩ rfl rfl hl.1 rfl (lv_room (Nat.le_of_ble_eq_true rfl)) dX7_unsureLine_103 ⟨Nat.le_of_ble_eq_true rfl, Nat.le_of_ble_eq_true rfl⟩) hS (fun q _ h => hFc q h) hFc (fun u t H locs ht hvm hw hB hz1 hk1 hS => ?_)
              refine ex_6_6 hB (fun x_5946 x_5947 x_5948 x_5949 x_5950 f_5951 b_x_5947 b_x_5950 e_x_5946_0 e_x_5946_1 e_x_5946_2 e_x_5946_3 hB => ?_)
              obtain ⟨hP, hD⟩ := Bw.goN (ws' := [(oc7 oM iM_thrown rM_tape iM_taped iM_size x_5946 x_5947 x_5948 x_5949 x_5950 z_5941 z_5942 iM_trouble rM_letters z_5940 iM_hasCourt rM_r rM_fresh rM_told rM_read rM_st rM_undone rM_kept iM_undos iM_images rM_fresher iM_fresherSize iM_scale iM_night rM_heardRow rM_cutRow iM_breaths iM_cutMany iM_allBreaths rM_trial rM_words iM_fewestBreaths iM_orderMany iM_orderSum iM_leastOrder rM_often iM_setMany iM_someOf iM_allOf iM_allWeight iM_enoughWeight iM_worthSum iM_firstRest iM_leastDrawn), (arI rM_tape kM_tape 900 fM_tape), (arI rM_letters kM_letters 8 f_5951), (arI rM_fresh kM_fresh 287 fM_fresh), (arI rM_read kM_read 90 fM_read)]) hB rfl ht hP hD _ hMs hk1 hFc rfl
              clear hz1 hk1 hvm ht hB hMs
              have hG := hG.trans (un6_eq e_x_5946_3)
              clear r_T
              refine lv_aload_n hx hb dX7_unsureLine_106 rfl (lv_at hl 3 rfl) ?_
              refine lv_iconst (v := 0) hx hb dX7_unsureLine_107 (by decide) ?_
              refine lv_bipush (v := 99) hx hb dX7_unsureLine_108 (by decide) ?_
              have hMs := ml_of hD [true, true, true, false, false] (wc := [(oc7 oM iM_thrown rM_tape iM_taped iM_size x_5946 x_5947 x_5948 x_5949 x_5950 z_5941 z_5942 iM_trouble rM_letters z_5940 iM_hasCourt rM_r rM_fresh rM_told rM_read rM_st rM_undone rM_kept iM_undos iM_images rM_fresher iM_fresherSize iM_scale iM_night rM_heardRow rM_cutRow iM_breaths iM_cutMany iM_allBreaths rM_trial rM_words iM_fewestBreaths iM_orderMany iM_orderSum iM_leastOrder rM_often iM_setMany iM_someOf iM_allOf iM_allWeight iM_enoughWeight iM_worthSum iM_firstRest iM_leastDrawn), (arI rM_tape kM_tape 900 fM_tape), (arI rM_letters kM_letters 8 f_5951)]) rfl
              have hFc := va_freeM hD hS hA _ hMs
              refine va_calli (va_runV (As := [.int 0, .int 99]) (rest := []) ⟨hx, hb, hml, hown, hts⟩ (tX7_number l dC dI _ oM iM_thrown rM_tape fM_tape kM_tape iM_taped iM_size x_5946 x_5947 x_5948 x_5949 x_5950 z_5941 z_5942 iM_trouble rM_letters f_5951 kM_letters z_5940 iM_hasCourt rM_r rM_fresh rM_told rM_read rM_st rM_undone rM_kept iM_undos iM_images rM_fresher iM_fresherSize iM_scale iM_night rM_heardRow rM_cutRow iM_breaths iM_cutMany iM_allBreaths rM_trial rM_words iM_fewestBreaths iM_orderMany iM_orderSum iM_leastOrder rM_often iM_setMany iM_someOf iM_allOf iM_allWeight iM_enoughWeight iM_worthSum iM_firstRest iM_leastDrawn 0 99 b_iM_taped b_iM_size b_x_5947 b_x_5950 b_z_5940 b_iM_hasCourt b_iM_undos b_iM_images b_iM_scale b_iM_breaths b_iM_cutMany e_x_5946_1 (om_b0b40937 kc_0 kc_99)) (cwV 2 hts (wd_V wd_446 wd_447 wd_448 wd_5 (wd_c wd_449)) rfl rfl rfl dv_yX7_number_2 ⟨Nat.le_of_ble_eq_true rfl, Nat.le_of_ble_eq_true rfl⟩) ⟨Pw.fb, recvX7 hK hP (q0 := 0) rfl, fun U hU hW => Pw.to (hP.ms _ hMs) (hD.ms _ hMs) (hK.ms [true, true, false, false] rfl) hE hS hFc hU hW⟩ rfl rfl hl.1 rfl (lv_room (Nat.le_of_ble_eq_true rfl)) dX7_unsureLine_110 ⟨Nat.le_of_ble_eq_true rfl, Nat.le_of_ble_eq_true rfl⟩) hS (fun q _ h => hFc q h) hFc (fun r u t H locs ht hvm hw hB hz1 hk1 hS => ?_)
              have hru9 := hw.2
              have hw := hw.1
              refine ex_9_8 hB (fun x_5952 x_5953 x_5954 x_5955 x_5956 x_5957 x_5958 x_5959 f_5960 b_x_5953 b_x_5956 b_x_5959 e_x_5952_0 e_x_5952_1 e_x_5952_2 e_x_5952_3 e_x_5952_4 hB => ?_)
              obtain ⟨hP, hD⟩ := Bw.goN (ws' := [(oc7 oM iM_thrown rM_tape iM_taped iM_size x_5952 x_5953 x_5954 x_5955 x_5956 x_5957 x_5958 iM_trouble rM_letters x_5959 iM_hasCourt rM_r rM_fresh rM_told rM_read rM_st rM_undone rM_kept iM_undos iM_images rM_fresher iM_fresherSize iM_scale iM_night rM_heardRow rM_cutRow iM_breaths iM_cutMany iM_allBreaths rM_trial rM_words iM_fewestBreaths iM_orderMany iM_orderSum iM_leastOrder rM_often iM_setMany iM_someOf iM_allOf iM_allWeight iM_enoughWeight iM_worthSum iM_firstRest iM_leastDrawn), (arI rM_tape kM_tape 900 fM_tape), (arI rM_letters kM_letters 8 f_5960), (arI rM_fresh kM_fresh 287 fM_fresh), (arI rM_read kM_read 90 fM_read)]) hB rfl ht hP hD _ hMs hk1 hFc rfl
              clear hz1 hk1 hvm ht hB hMs
              rw [← hru9] at e_x_5952_4
              obtain ⟨x_5961, rfl⟩ : ∃ z, z = r := ⟨_, rfl⟩
              have hG := hG.trans (un10_eq e_x_5952_4)
              have lx_5961 := hw.2
              have kl_0 := kc_0
              have kl_99 := kc_99
              clear e_x_5946_1
              clear e_x_5946_2
              refine lv_istore_n (lv' := [(3, .int x_5961), (2, .int x_5906), (1, .int x_5902), (0, .ref oM)]) hx hb dX7_unsureLine_113 rfl hl (by decide) rfl (fun ls hl => ?_)
              refine lv_aload_n hx hb dX7_unsureLine_114 rfl (lv_at hl 3 rfl) ?_
              refine va_get (D := (dC, dI)) (ci := 7) (v := .int x_5959) (C := RX7) (T := TX7) (N := 48) hx hb hts inX7 hown hK hP 0 rfl rfl 13 (by decide) (hts _ wd_380) (fun _ h9 => h9) rfl dX7_unsureLine_115 ?_
              refine lv_if_eq (tgt := 122) hx hb dX7_unsureLine_118 (by decide) (fun c_5962 => ?_) (fun c_5962 => ?_)
              · skip
                have hG := hG.trans (if_pos c_5962)
                have gc_5962 := ti_eq c_5962 rfl kc_0
                refine lv_aload_n hx hb dX7_unsureLine_122 rfl (lv_at hl 3 rfl) ?_
                refine va_get (D := (dC, dI)) (ci := 7) (v := .ref rM_fresh) (C := RX7) (T := TX7) (N := 48) hx hb hts inX7 hown hK hP 0 rfl rfl 16 (by decide) (hts _ wd_156) (fun _ h9 => h9) rfl dX7_unsureLine_123 ?_
                refine lv_iload_n hx hb dX7_unsureLine_126 rfl (lv_at hl 2 rfl) ?_
                refine lv_iload_n hx hb dX7_unsureLine_127 rfl (lv_at hl 1 rfl) ?_
                refine va_iast hx hb hK hP hD hS 3 2 rfl rfl (ti_in vx_5902 (om_e01513d4 pl_fM_fresh.2.2.2.1.1 cx_5900) (om_b23ddd3e pl_fM_fresh.2.2.2.1.2 cx_5900)) dX7_unsureLine_128 (fun H locs hP hD hS => ?_)
                obtain ⟨f_5963, ef_5963⟩ : ∃ g : Nat → Int32, g = upd fM_fresh x_5902.toNatClampNeg x_5906 := ⟨_, rfl⟩
                rw [← ef_5963] at hP hD
                have hG := hG.trans (lt_eq ef_5963)
                obtain ⟨hP, hD⟩ := wl2 (ws' := [(oc7 oM iM_thrown rM_tape iM_taped iM_size x_5952 x_5953 x_5954 x_5955 x_5956 x_5957 x_5958 iM_trouble rM_letters x_5959 iM_hasCourt rM_r rM_fresh rM_told rM_read rM_st rM_undone rM_kept iM_undos iM_images rM_fresher iM_fresherSize iM_scale iM_night rM_heardRow rM_cutRow iM_breaths iM_cutMany iM_allBreaths rM_trial rM_words iM_fewestBreaths iM_orderMany iM_orderSum iM_leastOrder rM_often iM_setMany iM_someOf iM_allOf iM_allWeight iM_enoughWeight iM_worthSum iM_firstRest iM_leastDrawn), (arI rM_tape kM_tape 900 fM_tape), (arI rM_letters kM_letters 8 f_5960), (arI rM_fresh kM_fresh 287 f_5963), (arI rM_read kM_read 90 fM_read)]) hP hD rfl
                have pk_f_5963 : POk f_5963 fM_read := POk.put r_P ef_5963 (Or.inr (Or.inr (Or.inr (Or.inr (Or.inr (Or.inr ((by have q9 := ti_cl (x := x_5902) vx_5902 (om_e01513d4 pl_fM_fresh.2.2.2.1.1 cx_5900); omega))))))))
                have pl_f_5963 := pk_f_5963.lins
                have o3_f_5963 : (f_5963 3).toInt = (fM_fresh 3).toInt := put_at ef_5963 (Nat.ne_of_lt (om_a84bc89b (ti_cl (x := x_5902) vx_5902 (om_e01513d4 pl_fM_fresh.2.2.2.1.1 cx_5900)) pl_fM_fresh.2.2.2.1.1 cx_5900))
                refine lv_aload_n hx hb dX7_unsureLine_129 rfl (lv_at hl 3 rfl) ?_
                refine va_get (D := (dC, dI)) (ci := 7) (v := .ref rM_fresh) (C := RX7) (T := TX7) (N := 48) hx hb hts inX7 hown hK hP 0 rfl rfl 16 (by decide) (hts _ wd_156) (fun _ h9 => h9) rfl dX7_unsureLine_130 ?_
                refine lv_iload_n hx hb dX7_unsureLine_133 rfl (lv_at hl 2 rfl) ?_
                refine lv_iconst (v := 1) hx hb dX7_unsureLine_134 (by decide) ?_
                refine lv_iadd hx hb dX7_unsureLine_135 ?_
                refine lv_topi (fun x_5964 ex_5964 => ?_)
                have hG := hG.trans (lt_eq ex_5964)
                have vx_5964 : x_5964.toInt = 2 * x_5900.toInt + 118 := om_c314a240 (ti_add ex_5964 vx_5902 kc_1 (om_8d6fa258 pl_fM_fresh.2.2.2.1.1 cx_5900) (om_63106487 pl_fM_fresh.2.2.2.1.2 cx_5900))
                refine lv_iload_n hx hb dX7_unsureLine_136 rfl (lv_at hl 0 rfl) ?_
                refine va_iast hx hb hK hP hD hS 3 2 rfl rfl (ti_in vx_5964 (om_36428d7e pl_fM_fresh.2.2.2.1.1 cx_5900) (om_dd31f364 pl_fM_fresh.2.2.2.1.2 cx_5900)) dX7_unsureLine_137 (fun H locs hP hD hS => ?_)
                obtain ⟨f_5965, ef_5965⟩ : ∃ g : Nat → Int32, g = upd f_5963 x_5964.toNatClampNeg x_5961 := ⟨_, rfl⟩
                rw [← ef_5965] at hP hD
                have hG := hG.trans (lt_eq ef_5965)
                obtain ⟨hP, hD⟩ := wl2 (ws' := [(oc7 oM iM_thrown rM_tape iM_taped iM_size x_5952 x_5953 x_5954 x_5955 x_5956 x_5957 x_5958 iM_trouble rM_letters x_5959 iM_hasCourt rM_r rM_fresh rM_told rM_read rM_st rM_undone rM_kept iM_undos iM_images rM_fresher iM_fresherSize iM_scale iM_night rM_heardRow rM_cutRow iM_breaths iM_cutMany iM_allBreaths rM_trial rM_words iM_fewestBreaths iM_orderMany iM_orderSum iM_leastOrder rM_often iM_setMany iM_someOf iM_allOf iM_allWeight iM_enoughWeight iM_worthSum iM_firstRest iM_leastDrawn), (arI rM_tape kM_tape 900 fM_tape), (arI rM_letters kM_letters 8 f_5960), (arI rM_fresh kM_fresh 287 f_5965), (arI rM_read kM_read 90 fM_read)]) hP hD rfl
                have pk_f_5965 : POk f_5965 fM_read := POk.put pk_f_5963 ef_5965 (Or.inr (Or.inr (Or.inr (Or.inr (Or.inr (Or.inr ((by have q9 := ti_cl (x := x_5964) vx_5964 (om_36428d7e pl_fM_fresh.2.2.2.1.1 cx_5900); omega))))))))
                have pl_f_5965 := pk_f_5965.lins
                have o3_f_5965 : (f_5965 3).toInt = (f_5963 3).toInt := put_at ef_5965 (Nat.ne_of_lt (om_44c915d2 (ti_cl (x := x_5964) vx_5964 (om_36428d7e pl_fM_fresh.2.2.2.1.1 cx_5900)) pl_fM_fresh.2.2.2.1.1 cx_5900))
                refine lv_aload_n hx hb dX7_unsureLine_138 rfl (lv_at hl 3 rfl) ?_
                refine va_get (D := (dC, dI)) (ci := 7) (v := .ref rM_fresh) (C := RX7) (T := TX7) (N := 48) hx hb hts inX7 hown hK hP 0 rfl rfl 16 (by decide) (hts _ wd_156) (fun _ h9 => h9) rfl dX7_unsureLine_139 ?_
                refine lv_iconst (v := 3) hx hb dX7_unsureLine_142 (by decide) ?_
                refine lv_dup2_11 hx hb dX7_unsureLine_143 rfl rfl ?_
                refine va_iald hx hb hK hP 3 2 rfl rfl (by unfold vp_in; decide) dX7_unsureLine_144 ?_
                refine lv_topi (fun x_5966 ex_5966 => ?_)
                have hG := hG.trans (lt_eq ex_5966)
                have cx_5966 : (f_5965 3).toInt = x_5966.toInt := congrArg Int32.toInt (show f_5965 3 = x_5966 from ex_5966.symm)
                refine lv_iconst (v := 1) hx hb dX7_unsureLine_145 (by decide) ?_
                refine lv_iadd hx hb dX7_unsureLine_146 ?_
                refine lv_topi (fun x_5967 ex_5967 => ?_)
                have hG := hG.trans (lt_eq ex_5967)
                have vx_5967 : x_5967.toInt = x_5966.toInt + 1 := ti_add ex_5967 rfl kc_1 (om_c68f1f10 pl_f_5965.2.2.2.1.1 cx_5966) (om_5922c878 pl_f_5965.2.2.2.1.2 cx_5966)
                refine va_iast hx hb hK hP hD hS 3 2 rfl rfl (by unfold vp_in; decide) dX7_unsureLine_147 (fun H locs hP hD hS => ?_)
                obtain ⟨f_5968, ef_5968⟩ : ∃ g : Nat → Int32, g = upd f_5965 (3 : Int32).toNatClampNeg x_5967 := ⟨_, rfl⟩
                rw [← ef_5968] at hP hD
                have hG := hG.trans (lt_eq ef_5968)
                obtain ⟨hP, hD⟩ := wl2 (ws' := [(oc7 oM iM_thrown rM_tape iM_taped iM_size x_5952 x_5953 x_5954 x_5955 x_5956 x_5957 x_5958 iM_trouble rM_letters x_5959 iM_hasCourt rM_r rM_fresh rM_told rM_read rM_st rM_undone rM_kept iM_undos iM_images rM_fresher iM_fresherSize iM_scale iM_night rM_heardRow rM_cutRow iM_breaths iM_cutMany iM_allBreaths rM_trial rM_words iM_fewestBreaths iM_orderMany iM_orderSum iM_leastOrder rM_often iM_setMany iM_someOf iM_allOf iM_allWeight iM_enoughWeight iM_worthSum iM_firstRest iM_leastDrawn), (arI rM_tape kM_tape 900 fM_tape), (arI rM_letters kM_letters 8 f_5960), (arI rM_fresh kM_fresh 287 f_5968), (arI rM_read kM_read 90 fM_read)]) hP hD rfl
                have pk_f_5968 : POk f_5968 fM_read := POk.put pk_f_5965 ef_5968 (Or.inr (Or.inr (Or.inr (Or.inr (Or.inl (by have q9 : ((3 : Int32).toNatClampNeg : Nat) = 3 := rfl; omega))))))
                have pl_f_5968 := pk_f_5968.lins
                exact wq_v hx hb hr 0 trivial (fun t ht hW => ⟨x_5952, x_5953, x_5954, x_5955, x_5956, x_5957, x_5958, x_5959, f_5960, f_5968, b_x_5953, b_x_5956, b_x_5959, (om_9348f5ae e_x_5946_0 e_x_5952_0), e_x_5952_1, (om_1fc3dec6 gc_5898 b_x_5959.1), (fun h9 => (om_7ed234da e_x_5946_0 (e_x_5952_3 ⟨(om_02e9bb08 gc_5962), h9.2⟩))), pk_f_5968, hG, Bw.to hP hD hK ht hW⟩) hS dX7_unsureLine_148 hlocks
              · skip
                have hG := hG.trans (if_neg c_5962)
                have gc_5962 := ti_ne c_5962 rfl kc_0
                replace gc_5962 : (-1) * x_5959.toInt + 1 ≤ 0 := om_e3003f79 gc_5962 b_x_5959.1
                exact wq_v hx hb hr 0 trivial (fun t ht hW => ⟨x_5952, x_5953, x_5954, x_5955, x_5956, x_5957, x_5958, x_5959, f_5960, fM_fresh, b_x_5953, b_x_5956, b_x_5959, (om_9348f5ae e_x_5946_0 e_x_5952_0), e_x_5952_1, (om_1fc3dec6 gc_5898 b_x_5959.1), (fun h9 => False.elim (om_a5fe015d gc_5962 h9.1)), r_P, hG, Bw.to hP hD hK ht hW⟩) hS dX7_unsureLine_121 hlocks
            · skip
              have hG := hG.trans (if_neg c_5945)
              have gc_5945 := ti_nle c_5945 rfl rfl
              refine lv_aload_n hx hb dX7_unsureLine_65 rfl (lv_at hl 3 rfl) ?_
              refine va_get (D := (dC, dI)) (ci := 7) (v := .int z_5940) (C := RX7) (T := TX7) (N := 48) hx hb hts inX7 hown hK hP 0 rfl rfl 13 (by decide) (hts _ wd_380) (fun _ h9 => h9) rfl dX7_unsureLine_66 ?_
              refine lv_if_ne (tgt := 96) hx hb dX7_unsureLine_69 (by decide) (fun c_5969 => ?_) (fun c_5969 => ?_)
              · skip
                have hG := hG.trans (if_neg c_5969)
                have gc_5969 := ti_ne c_5969 rfl kc_0
                replace gc_5969 : (-1) * z_5940.toInt + 1 ≤ 0 := om_e3003f79 gc_5969 b_z_5940.1
                obtain ⟨x_5970, ex_5970⟩ : ∃ z : Int32, z = z_5939 + Int32.ofInt 1 := ⟨_, rfl⟩
                have hG := hG.trans (lt_eq ex_5970)
                have vx_5970 : x_5970.toInt = z_5939.toInt + 1 := ti_add (y := 1) ex_5970 rfl kc_1 (om_4e4fce7e hi0_n_5943.1) (om_bae2951a hi0_n_5943.2)
                refine lv_iinc (v := x_5970) (lv' := [(3, .int x_5970), (2, .int x_5906), (1, .int x_5902), (0, .ref oM)]) hx hb dX7_unsureLine_96 hl (k := 0) rfl ex_5970.symm (by decide) rfl (fun ls hl => ?_)
                refine lv_goto (tgt := 55) hx hb dX7_unsureLine_99 (by decide) ?_
                exact ih_n_5943 x_5970 z_5940 z_5941 z_5942 _ _ _ b_z_5940 ⟨(om_83b90de5 hi0_n_5943.1 vx_5970), (om_8267bec5 pl_fM_fresh.2.2.2.1.2 cx_5944 gc_5945 vx_5970)⟩ (om_1fc3dec6 gc_5907 b_z_5940.1) (ms_lt hm_n_5943 (om_ed22490e vx_5970) (om_e4be4046 pl_fM_fresh.2.2.2.1.2 cx_5944 gc_5945)) hG hP hD hS (lv_sub hl [0, 1, 2, 3] rfl)
              · skip
                have hG := hG.trans (if_pos c_5969)
                have gc_5969 := ti_eq c_5969 rfl kc_0
                refine lv_aload_n hx hb dX7_unsureLine_72 rfl (lv_at hl 3 rfl) ?_
                refine va_get (D := (dC, dI)) (ci := 7) (v := .ref rM_fresh) (C := RX7) (T := TX7) (N := 48) hx hb hts inX7 hown hK hP 0 rfl rfl 16 (by decide) (hts _ wd_156) (fun _ h9 => h9) rfl dX7_unsureLine_73 ?_
                refine lv_bipush (v := 117) hx hb dX7_unsureLine_76 (by decide) ?_
                refine lv_iconst (v := 2) hx hb dX7_unsureLine_78 (by decide) ?_
                refine lv_iload_n hx hb dX7_unsureLine_79 rfl (lv_at hl 0 rfl) ?_
                refine lv_imul hx hb dX7_unsureLine_80 ?_
                refine lv_topi (fun x_5971 ex_5971 => ?_)
                have hG := hG.trans (lt_eq ex_5971)
                have vx_5971 : x_5971.toInt = 2 * z_5939.toInt := ti_mul ex_5971 kc_2 rfl (om_c5b3d97d hi0_n_5943.1) (om_e31e6d0e hi0_n_5943.2)
                refine lv_iadd hx hb dX7_unsureLine_81 ?_
                refine lv_topi (fun x_5972 ex_5972 => ?_)
                have hG := hG.trans (lt_eq ex_5972)
                have vx_5972 : x_5972.toInt = 2 * z_5939.toInt + 117 := om_67044d60 (ti_add ex_5972 kc_117 vx_5971 (om_6bb57472 hi0_n_5943.1) (om_12bf95c9 hi0_n_5943.2))
                refine va_iald hx hb hK hP 3 2 rfl rfl (ti_in vx_5972 (om_c8571833 hi0_n_5943.1) (om_f21b86dc hi0_n_5943.2)) dX7_unsureLine_82 ?_
                refine lv_topi (fun x_5973 ex_5973 => ?_)
                have hG := hG.trans (lt_eq ex_5973)
                have kx_5973 : (fM_fresh x_5972.toNatClampNeg).toInt = x_5973.toInt := by rw [ex_5973]
                have cx_5973 : (fM_fresh (117 + 2 * z_5939.toNatClampNeg)).toInt = x_5973.toInt := by rw [show 117 + 2 * z_5939.toNatClampNeg = x_5972.toNatClampNeg from (om_dbb1b72e (ti_cl (x := z_5939) rfl hi0_n_5943.1) (ti_cl (x := x_5972) vx_5972 (om_c8571833 hi0_n_5943.1)))]; exact kx_5973
                refine lv_iload_n hx hb dX7_unsureLine_83 rfl (lv_at hl 1 rfl) ?_
                refine lv_icmp_ne (tgt := 96) hx hb dX7_unsureLine_84 (by decide) (fun c_5974 => ?_) (fun c_5974 => ?_)
                · skip
                  have hG := hG.trans (if_neg c_5974)
                  have gc_5974 := ti_ne c_5974 rfl rfl
                  clear gc_5974
                  obtain ⟨x_5975, ex_5975⟩ : ∃ z : Int32, z = z_5939 + Int32.ofInt 1 := ⟨_, rfl⟩
                  have hG := hG.trans (lt_eq ex_5975)
                  have vx_5975 : x_5975.toInt = z_5939.toInt + 1 := ti_add (y := 1) ex_5975 rfl kc_1 (om_4e4fce7e hi0_n_5943.1) (om_bae2951a hi0_n_5943.2)
                  refine lv_iinc (v := x_5975) (lv' := [(3, .int x_5975), (2, .int x_5906), (1, .int x_5902), (0, .ref oM)]) hx hb dX7_unsureLine_96 hl (k := 0) rfl ex_5975.symm (by decide) rfl (fun ls hl => ?_)
                  refine lv_goto (tgt := 55) hx hb dX7_unsureLine_99 (by decide) ?_
                  exact ih_n_5943 x_5975 z_5940 z_5941 z_5942 _ _ _ b_z_5940 ⟨(om_83b90de5 hi0_n_5943.1 vx_5975), (om_8267bec5 pl_fM_fresh.2.2.2.1.2 cx_5944 gc_5945 vx_5975)⟩ (om_1fc3dec6 gc_5907 b_z_5940.1) (ms_lt hm_n_5943 (om_ed22490e vx_5975) (om_e4be4046 pl_fM_fresh.2.2.2.1.2 cx_5944 gc_5945)) hG hP hD hS (lv_sub hl [0, 1, 2, 3] rfl)
                · skip
                  have hG := hG.trans (if_pos c_5974)
                  have gc_5974 := ti_eq c_5974 rfl rfl
                  refine lv_aload_n hx hb dX7_unsureLine_87 rfl (lv_at hl 3 rfl) ?_
                  refine lv_iconst (v := 3) hx hb dX7_unsureLine_88 (by decide) ?_
                  refine lv_aload_n hx hb dX7_unsureLine_89 rfl (lv_at hl 3 rfl) ?_
                  refine va_get (D := (dC, dI)) (ci := 7) (v := .int iM_at) (C := RX7) (T := TX7) (N := 48) hx hb hts inX7 hown hK hP 0 rfl rfl 4 (by decide) (hts _ wd_384) (fun _ h9 => h9) rfl dX7_unsureLine_90 ?_
                  have hMs := ml_of hD [true, false, false, false, false] (wc := [(oc7 oM iM_thrown rM_tape iM_taped iM_size iM_at iM_end iM_token iM_whole iM_nameSize z_5941 z_5942 iM_trouble rM_letters z_5940 iM_hasCourt rM_r rM_fresh rM_told rM_read rM_st rM_undone rM_kept iM_undos iM_images rM_fresher iM_fresherSize iM_scale iM_night rM_heardRow rM_cutRow iM_breaths iM_cutMany iM_allBreaths rM_trial rM_words iM_fewestBreaths iM_orderMany iM_orderSum iM_leastOrder rM_often iM_setMany iM_someOf iM_allOf iM_allWeight iM_enoughWeight iM_worthSum iM_firstRest iM_leastDrawn)]) rfl
                  have hFc := va_freeM hD hS hA _ hMs
                  refine va_callv (va_runV (As := [.int 3, .int iM_at]) (rest := []) ⟨hx, hb, hml, hown, hts⟩ (tX7_wrong l dC dI _ oM iM_thrown rM_tape iM_taped iM_size iM_at iM_end iM_token iM_whole iM_nameSize z_5941 z_5942 iM_trouble rM_letters z_5940 iM_hasCourt rM_r rM_fresh rM_told rM_read rM_st rM_undone rM_kept iM_undos iM_images rM_fresher iM_fresherSize iM_scale iM_night rM_heardRow rM_cutRow iM_breaths iM_cutMany iM_allBreaths rM_trial rM_words iM_fewestBreaths iM_orderMany iM_orderSum iM_leastOrder rM_often iM_setMany iM_someOf iM_allOf iM_allWeight iM_enoughWeight iM_worthSum iM_firstRest iM_leastDrawn 3 iM_at b_iM_taped b_iM_size b_iM_end b_iM_nameSize b_z_5940 b_iM_hasCourt b_iM_undos b_iM_images b_iM_scale b_iM_breaths b_iM_cutMany r_T) (cwV 2 hts (wd_V wd_430 wd_431 wd_432 wd_5 (wd_c wd_433)) rfl rfl rfl dv_yX7_wrong_2 ⟨Nat.le_of_ble_eq_true rfl, Nat.le_of_ble_eq_true rfl⟩) ⟨Pw.fb, recvX7 hK hP (q0 := 0) rfl, fun U hU hW => Pw.to (hP.ms _ hMs) (hD.ms _ hMs) (hK.ms [false, false, false, false] rfl) hE hS hFc hU hW⟩ rfl rfl hl.1 rfl (lv_room (Nat.le_of_ble_eq_true rfl)) dX7_unsureLine_93 ⟨Nat.le_of_ble_eq_true rfl, Nat.le_of_ble_eq_true rfl⟩) hS (fun q _ h => hFc q h) hFc (fun u t H locs ht hvm hw hB hz1 hk1 hS => ?_)
                  refine ex_3_3 hB (fun x_5976 x_5977 x_5978 b_x_5978 e_x_5976_0 e_x_5976_1 hB => ?_)
                  obtain ⟨hP, hD⟩ := Bw.goN (ws' := [(oc7 oM iM_thrown rM_tape iM_taped iM_size iM_at iM_end iM_token iM_whole iM_nameSize x_5976 x_5977 iM_trouble rM_letters x_5978 iM_hasCourt rM_r rM_fresh rM_told rM_read rM_st rM_undone rM_kept iM_undos iM_images rM_fresher iM_fresherSize iM_scale iM_night rM_heardRow rM_cutRow iM_breaths iM_cutMany iM_allBreaths rM_trial rM_words iM_fewestBreaths iM_orderMany iM_orderSum iM_leastOrder rM_often iM_setMany iM_someOf iM_allOf iM_allWeight iM_enoughWeight iM_worthSum iM_firstRest iM_leastDrawn), (arI rM_tape kM_tape 900 fM_tape), (arI rM_letters kM_letters 8 fM_letters), (arI rM_fresh kM_fresh 287 fM_fresh), (arI rM_read kM_read 90 fM_read)]) hB rfl ht hP hD _ hMs hk1 hFc rfl
                  clear hz1 hk1 hvm ht hB hMs
                  have hG := hG.trans (un3_eq e_x_5976_1)
                  obtain ⟨x_5979, ex_5979⟩ : ∃ z : Int32, z = z_5939 + Int32.ofInt 1 := ⟨_, rfl⟩
                  have hG := hG.trans (lt_eq ex_5979)
                  have vx_5979 : x_5979.toInt = z_5939.toInt + 1 := ti_add (y := 1) ex_5979 rfl kc_1 (om_4e4fce7e hi0_n_5943.1) (om_bae2951a hi0_n_5943.2)
                  refine lv_iinc (v := x_5979) (lv' := [(3, .int x_5979), (2, .int x_5906), (1, .int x_5902), (0, .ref oM)]) hx hb dX7_unsureLine_96 hl (k := 0) rfl ex_5979.symm (by decide) rfl (fun ls hl => ?_)
                  refine lv_goto (tgt := 55) hx hb dX7_unsureLine_99 (by decide) ?_
                  exact ih_n_5943 x_5979 x_5978 x_5976 x_5977 _ _ _ b_x_5978 ⟨(om_83b90de5 hi0_n_5943.1 vx_5979), (om_8267bec5 pl_fM_fresh.2.2.2.1.2 cx_5944 gc_5945 vx_5979)⟩ (om_1fc3dec6 gc_5907 b_x_5978.1) (ms_lt hm_n_5943 (om_ed22490e vx_5979) (om_e4be4046 pl_fM_fresh.2.2.2.1.2 cx_5944 gc_5945)) hG hP hD hS (lv_sub hl [0, 1, 2, 3] rfl)
        exact key_n_5943 (((4 - (0 : Int32).toInt).toNat) + 1) 0 x_5905 x_5903 x_5904 _ _ _ b_x_5905 ⟨(om_b1de7dbe kc_0), (om_bebe011a kc_0)⟩ om_1cb5f934 (Nat.lt_add_one _) hG hP hD hS hl
      · skip
        have hG := hG.trans (if_neg c_5938)
        have gc_5938 := ti_ne c_5938 rfl kc_0
        clear gc_5938
        refine lv_aload_n hx hb dX7_unsureLine_44 rfl (lv_at hl 2 rfl) ?_
        refine lv_iconst (v := 2) hx hb dX7_unsureLine_45 (by decide) ?_
        refine lv_aload_n hx hb dX7_unsureLine_46 rfl (lv_at hl 2 rfl) ?_
        refine va_get (D := (dC, dI)) (ci := 7) (v := .int iM_at) (C := RX7) (T := TX7) (N := 48) hx hb hts inX7 hown hK hP 0 rfl rfl 4 (by decide) (hts _ wd_384) (fun _ h9 => h9) rfl dX7_unsureLine_47 ?_
        have hMs := ml_of hD [true, false, false, false, false] (wc := [(oc7 oM iM_thrown rM_tape iM_taped iM_size iM_at iM_end iM_token iM_whole iM_nameSize x_5903 x_5904 iM_trouble rM_letters x_5905 iM_hasCourt rM_r rM_fresh rM_told rM_read rM_st rM_undone rM_kept iM_undos iM_images rM_fresher iM_fresherSize iM_scale iM_night rM_heardRow rM_cutRow iM_breaths iM_cutMany iM_allBreaths rM_trial rM_words iM_fewestBreaths iM_orderMany iM_orderSum iM_leastOrder rM_often iM_setMany iM_someOf iM_allOf iM_allWeight iM_enoughWeight iM_worthSum iM_firstRest iM_leastDrawn)]) rfl
        have hFc := va_freeM hD hS hA _ hMs
        refine va_callv (va_runV (As := [.int 2, .int iM_at]) (rest := []) ⟨hx, hb, hml, hown, hts⟩ (tX7_wrong l dC dI _ oM iM_thrown rM_tape iM_taped iM_size iM_at iM_end iM_token iM_whole iM_nameSize x_5903 x_5904 iM_trouble rM_letters x_5905 iM_hasCourt rM_r rM_fresh rM_told rM_read rM_st rM_undone rM_kept iM_undos iM_images rM_fresher iM_fresherSize iM_scale iM_night rM_heardRow rM_cutRow iM_breaths iM_cutMany iM_allBreaths rM_trial rM_words iM_fewestBreaths iM_orderMany iM_orderSum iM_leastOrder rM_often iM_setMany iM_someOf iM_allOf iM_allWeight iM_enoughWeight iM_worthSum iM_firstRest iM_leastDrawn 2 iM_at b_iM_taped b_iM_size b_iM_end b_iM_nameSize b_x_5905 b_iM_hasCourt b_iM_undos b_iM_images b_iM_scale b_iM_breaths b_iM_cutMany r_T) (cwV 2 hts (wd_V wd_430 wd_431 wd_432 wd_5 (wd_c wd_433)) rfl rfl rfl dv_yX7_wrong_2 ⟨Nat.le_of_ble_eq_true rfl, Nat.le_of_ble_eq_true rfl⟩) ⟨Pw.fb, recvX7 hK hP (q0 := 0) rfl, fun U hU hW => Pw.to (hP.ms _ hMs) (hD.ms _ hMs) (hK.ms [false, false, false, false] rfl) hE hS hFc hU hW⟩ rfl rfl hl.1 rfl (lv_room (Nat.le_of_ble_eq_true rfl)) dX7_unsureLine_50 ⟨Nat.le_of_ble_eq_true rfl, Nat.le_of_ble_eq_true rfl⟩) hS (fun q _ h => hFc q h) hFc (fun u t H locs ht hvm hw hB hz1 hk1 hS => ?_)
        refine ex_3_3 hB (fun x_5980 x_5981 x_5982 b_x_5982 e_x_5980_0 e_x_5980_1 hB => ?_)
        obtain ⟨hP, hD⟩ := Bw.goN (ws' := [(oc7 oM iM_thrown rM_tape iM_taped iM_size iM_at iM_end iM_token iM_whole iM_nameSize x_5980 x_5981 iM_trouble rM_letters x_5982 iM_hasCourt rM_r rM_fresh rM_told rM_read rM_st rM_undone rM_kept iM_undos iM_images rM_fresher iM_fresherSize iM_scale iM_night rM_heardRow rM_cutRow iM_breaths iM_cutMany iM_allBreaths rM_trial rM_words iM_fewestBreaths iM_orderMany iM_orderSum iM_leastOrder rM_often iM_setMany iM_someOf iM_allOf iM_allWeight iM_enoughWeight iM_worthSum iM_firstRest iM_leastDrawn), (arI rM_tape kM_tape 900 fM_tape), (arI rM_letters kM_letters 8 fM_letters), (arI rM_fresh kM_fresh 287 fM_fresh), (arI rM_read kM_read 90 fM_read)]) hB rfl ht hP hD _ hMs hk1 hFc rfl
        clear hz1 hk1 hvm ht hB hMs
        have hG := hG.trans (un3_eq e_x_5980_1)
        refine lv_iconst (v := 0) hx hb dX7_unsureLine_53 (by decide) ?_
        refine lv_istore_n (lv' := [(3, .int 0), (2, .int x_5906), (1, .int x_5902), (0, .ref oM)]) hx hb dX7_unsureLine_54 rfl hl (by decide) rfl (fun ls hl => ?_)
        have hl := lv_sub hl (l' := [(3, .int 0), (2, .int x_5906), (1, .int x_5902), (0, .ref oM)]) [0, 1, 2, 3] rfl
        have key_n_5987 : ∀ (n_5987 : Nat) (z_5983 : Int32) (z_5984 : Int32) (z_5985 : Int32) (z_5986 : Int32) (H : Heap) (locs : List Loc) (ls : Array Slot), (0 ≤ z_5984.toInt ∧ z_5984.toInt ≤ 1) → (0 ≤ z_5983.toInt ∧ z_5983.toInt ≤ 4) → (x_5982.toInt ≤ z_5984.toInt) → (4 - z_5983.toInt).toNat < n_5987 → (PX7_unsureLine fM_tape iM_size iM_at iM_end iM_token iM_whole iM_nameSize iM_fault iM_place fM_letters iM_failed fM_fresh = HX7_unsureLine_1 fM_tape iM_size iM_at iM_end iM_token iM_whole iM_nameSize fM_letters fM_fresh n_5987 z_5983 z_5984 z_5985 z_5986) → va_P (dC, dI) vwCl [(oc7 oM iM_thrown rM_tape iM_taped iM_size iM_at iM_end iM_token iM_whole iM_nameSize z_5985 z_5986 iM_trouble rM_letters z_5984 iM_hasCourt rM_r rM_fresh rM_told rM_read rM_st rM_undone rM_kept iM_undos iM_images rM_fresher iM_fresherSize iM_scale iM_night rM_heardRow rM_cutRow iM_breaths iM_cutMany iM_allBreaths rM_trial rM_words iM_fewestBreaths iM_orderMany iM_orderSum iM_leastOrder rM_often iM_setMany iM_someOf iM_allOf iM_allWeight iM_enoughWeight iM_worthSum iM_firstRest iM_leastDrawn), (arI rM_tape kM_tape 900 fM_tape), (arI rM_letters kM_letters 8 fM_letters), (arI rM_fresh kM_fresh 287 fM_fresh), (arI rM_read kM_read 90 fM_read)] H → va_D A [(oc7 oM iM_thrown rM_tape iM_taped iM_size iM_at iM_end iM_token iM_whole iM_nameSize z_5985 z_5986 iM_trouble rM_letters z_5984 iM_hasCourt rM_r rM_fresh rM_told rM_read rM_st rM_undone rM_kept iM_undos iM_images rM_fresher iM_fresherSize iM_scale iM_night rM_heardRow rM_cutRow iM_breaths iM_cutMany iM_allBreaths rM_trial rM_words iM_fewestBreaths iM_orderMany iM_orderSum iM_leastOrder rM_often iM_setMany iM_someOf iM_allOf iM_allWeight iM_enoughWeight iM_worthSum iM_firstRest iM_leastDrawn), (arI rM_tape kM_tape 900 fM_tape), (arI rM_letters kM_letters 8 fM_letters), (arI rM_fresh kM_fresh 287 fM_fresh), (arI rM_read kM_read 90 fM_read)] → va_S A s.heap H locs → lv_has ls 4 [(3, .int z_5983), (2, .int x_5906), (1, .int x_5902), (0, .ref oM)] → W p l e (headSpec (Cond.code yX7_unsureLine cX7_unsureLine 4 none :: wG) ({ frames := 7, cells := 0, slots := 0, locals := 175 })).room s m ([.ref oM] : List Value).toArray below meth c H locs 0 0 (MQ below (va_Qv (fun (_ : Nat) => True) (fun (_ : Nat) (t : State) => ∃ (niM_at : Int32) (niM_end : Int32) (niM_token : Int32) (niM_whole : Int32) (niM_nameSize : Int32) (niM_fault : Int32) (niM_place : Int32) (niM_failed : Int32) (nfM_letters : Nat → Int32) (nfM_fresh : Nat → Int32), (0 ≤ niM_end.toInt ∧ niM_end.toInt ≤ 900) ∧ (0 ≤ niM_nameSize.toInt ∧ niM_nameSize.toInt ≤ 900) ∧ (0 ≤ niM_failed.toInt ∧ niM_failed.toInt ≤ 1) ∧ (iM_end.toInt ≤ niM_end.toInt) ∧ (ImpP (niM_token.toInt = 2) (niM_nameSize.toInt ≤ 8)) ∧ (iM_failed.toInt ≤ niM_failed.toInt) ∧ (ImpP (niM_failed.toInt ≤ 0 ∧ niM_token.toInt = 59 ) (iM_end.toInt + 1 ≤ niM_end.toInt)) ∧ (POk nfM_fresh fM_read) ∧ (PX7_unsureLine fM_tape iM_size iM_at iM_end iM_token iM_whole iM_nameSize iM_fault iM_place fM_letters iM_failed fM_fresh = (niM_at, niM_end, niM_token, niM_whole, niM_nameSize, niM_fault, niM_place, niM_failed, nfM_letters, nfM_fresh)) ∧ Bw dC dI A [(oc7 oM iM_thrown rM_tape iM_taped iM_size niM_at niM_end niM_token niM_whole niM_nameSize niM_fault niM_place iM_trouble rM_letters niM_failed iM_hasCourt rM_r rM_fresh rM_told rM_read rM_st rM_undone rM_kept iM_undos iM_images rM_fresher iM_fresherSize iM_scale iM_night rM_heardRow rM_cutRow iM_breaths iM_cutMany iM_allBreaths rM_trial rM_words iM_fewestBreaths iM_orderMany iM_orderSum iM_leastOrder rM_often iM_setMany iM_someOf iM_allOf iM_allWeight iM_enoughWeight iM_worthSum iM_firstRest iM_leastDrawn), (arI rM_tape kM_tape 900 fM_tape), (arI rM_letters kM_letters 8 nfM_letters), (arI rM_fresh kM_fresh 287 nfM_fresh), (arI rM_read kM_read 90 fM_read)] [(kM_tape, .int), (kM_letters, .int), (kM_fresh, .int), (kM_read, .int)] t) A) ([.ref oM] : List Value).toArray s 0 0 A) (F0 m 55 ls []) := by
          intro n_5987
          induction n_5987 with
          | zero => intro z_5983 z_5984 z_5985 z_5986 H locs ls b_z_5984 hi0_n_5987 hi1_n_5987 hm; exact absurd hm (Nat.not_lt_zero _)
          | succ n_5987 ih_n_5987 =>
            intro z_5983 z_5984 z_5985 z_5986 H locs ls b_z_5984 hi0_n_5987 hi1_n_5987 hm_n_5987 hG hP hD hS hl
            have hG := hG.trans (HX7_unsureLine_1_eq _ _ _ _ _ _ _ _ _ _ _ _ _ _)
            refine lv_iload_n hx hb dX7_unsureLine_55 rfl (lv_at hl 0 rfl) ?_
            refine lv_aload_n hx hb dX7_unsureLine_56 rfl (lv_at hl 3 rfl) ?_
            refine va_get (D := (dC, dI)) (ci := 7) (v := .ref rM_fresh) (C := RX7) (T := TX7) (N := 48) hx hb hts inX7 hown hK hP 0 rfl rfl 16 (by decide) (hts _ wd_156) (fun _ h9 => h9) rfl dX7_unsureLine_57 ?_
            refine lv_iconst (v := 3) hx hb dX7_unsureLine_60 (by decide) ?_
            refine va_iald hx hb hK hP 3 2 rfl rfl (by unfold vp_in; decide) dX7_unsureLine_61 ?_
            refine lv_topi (fun x_5988 ex_5988 => ?_)
            have hG := hG.trans (lt_eq ex_5988)
            have cx_5988 : (fM_fresh 3).toInt = x_5988.toInt := congrArg Int32.toInt (show fM_fresh 3 = x_5988 from ex_5988.symm)
            refine lv_icmp_ge (tgt := 102) hx hb dX7_unsureLine_62 (by decide) (fun c_5989 => ?_) (fun c_5989 => ?_)
            · skip
              have hG := hG.trans (if_pos c_5989)
              have gc_5989 := ti_le c_5989 rfl rfl
              refine lv_aload_n hx hb dX7_unsureLine_102 rfl (lv_at hl 3 rfl) ?_
              have hMs := ml_of hD [true, true, true, false, false] (wc := [(oc7 oM iM_thrown rM_tape iM_taped iM_size iM_at iM_end iM_token iM_whole iM_nameSize z_5985 z_5986 iM_trouble rM_letters z_5984 iM_hasCourt rM_r rM_fresh rM_told rM_read rM_st rM_undone rM_kept iM_undos iM_images rM_fresher iM_fresherSize iM_scale iM_night rM_heardRow rM_cutRow iM_breaths iM_cutMany iM_allBreaths rM_trial rM_words iM_fewestBreaths iM_orderMany iM_orderSum iM_leastOrder rM_often iM_setMany iM_someOf iM_allOf iM_allWeight iM_enoughWeight iM_worthSum iM_firstRest iM_leastDrawn), (arI rM_tape kM_tape 900 fM_tape), (arI rM_letters kM_letters 8 fM_letters)]) rfl
              have hFc := va_freeM hD hS hA _ hMs
              refine va_callv (va_runV (As := []) (rest := []) ⟨hx, hb, hml, hown, hts⟩ (tX7_pass l dC dI _ oM iM_thrown rM_tape fM_tape kM_tape iM_taped iM_size iM_at iM_end iM_token iM_whole iM_nameSize z_5985 z_5986 iM_trouble rM_letters fM_letters kM_letters z_5984 iM_hasCourt rM_r rM_fresh rM_told rM_read rM_st rM_undone rM_kept iM_undos iM_images rM_fresher iM_fresherSize iM_scale iM_night rM_heardRow rM_cutRow iM_breaths iM_cutMany iM_allBreaths rM_trial rM_words iM_fewestBreaths iM_orderMany iM_orderSum iM_leastOrder rM_often iM_setMany iM_someOf iM_allOf iM_allWeight iM_enoughWeight iM_worthSum iM_firstRest iM_leastDrawn b_iM_taped b_iM_size b_iM_end b_iM_nameSize b_z_5984 b_iM_hasCourt b_iM_undos b_iM_images b_iM_scale b_iM_breaths b_iM_cutMany r_T) (cwV 0 hts (wd_V wd_454 wd_455 wd_456 wd_5 (wd_c wd_457)) rfl rfl rfl dv_yX7_pass_0 ⟨Nat.le_of_ble_eq_true rfl, Nat.le_of_ble_eq_true rfl⟩) ⟨Pw.fb, recvX7 hK hP (q0 := 0) rfl, fun U hU hW => Pw.to (hP.ms _ hMs) (hD.ms _ hMs) (hK.ms [true, true, false, false] rfl) hE hS hFc hU hW⟩ rfl rfl hl.1 rfl (lv_room (Nat.le_of_ble_eq_true rfl)) dX7_unsureLine_103 ⟨Nat.le_of_ble_eq_true rfl, Nat.le_of_ble_eq_true rfl⟩) hS (fun q _ h => hFc q h) hFc (fun u t H locs ht hvm hw hB hz1 hk1 hS => ?_)
              refine ex_6_6 hB (fun x_5990 x_5991 x_5992 x_5993 x_5994 f_5995 b_x_5991 b_x_5994 e_x_5990_0 e_x_5990_1 e_x_5990_2 e_x_5990_3 hB => ?_)
              obtain ⟨hP, hD⟩ := Bw.goN (ws' := [(oc7 oM iM_thrown rM_tape iM_taped iM_size x_5990 x_5991 x_5992 x_5993 x_5994 z_5985 z_5986 iM_trouble rM_letters z_5984 iM_hasCourt rM_r rM_fresh rM_told rM_read rM_st rM_undone rM_kept iM_undos iM_images rM_fresher iM_fresherSize iM_scale iM_night rM_heardRow rM_cutRow iM_breaths iM_cutMany iM_allBreaths rM_trial rM_words iM_fewestBreaths iM_orderMany iM_orderSum iM_leastOrder rM_often iM_setMany iM_someOf iM_allOf iM_allWeight iM_enoughWeight iM_worthSum iM_firstRest iM_leastDrawn), (arI rM_tape kM_tape 900 fM_tape), (arI rM_letters kM_letters 8 f_5995), (arI rM_fresh kM_fresh 287 fM_fresh), (arI rM_read kM_read 90 fM_read)]) hB rfl ht hP hD _ hMs hk1 hFc rfl
              clear hz1 hk1 hvm ht hB hMs
              have hG := hG.trans (un6_eq e_x_5990_3)
              clear r_T
              refine lv_aload_n hx hb dX7_unsureLine_106 rfl (lv_at hl 3 rfl) ?_
              refine lv_iconst (v := 0) hx hb dX7_unsureLine_107 (by decide) ?_
              refine lv_bipush (v := 99) hx hb dX7_unsureLine_108 (by decide) ?_
              have hMs := ml_of hD [true, true, true, false, false] (wc := [(oc7 oM iM_thrown rM_tape iM_taped iM_size x_5990 x_5991 x_5992 x_5993 x_5994 z_5985 z_5986 iM_trouble rM_letters z_5984 iM_hasCourt rM_r rM_fresh rM_told rM_read rM_st rM_undone rM_kept iM_undos iM_images rM_fresher iM_fresherSize iM_scale iM_night rM_heardRow rM_cutRow iM_breaths iM_cutMany iM_allBreaths rM_trial rM_words iM_fewestBreaths iM_orderMany iM_orderSum iM_leastOrder rM_often iM_setMany iM_someOf iM_allOf iM_allWeight iM_enoughWeight iM_worthSum iM_firstRest iM_leastDrawn), (arI rM_tape kM_tape 900 fM_tape), (arI rM_letters kM_letters 8 f_5995)]) rfl
              have hFc := va_freeM hD hS hA _ hMs
              refine va_calli (va_runV (As := [.int 0, .int 99]) (rest := []) ⟨hx, hb, hml, hown, hts⟩ (tX7_number l dC dI _ oM iM_thrown rM_tape fM_tape kM_tape iM_taped iM_size x_5990 x_5991 x_5992 x_5993 x_5994 z_5985 z_5986 iM_trouble rM_letters f_5995 kM_letters z_5984 iM_hasCourt rM_r rM_fresh rM_told rM_read rM_st rM_undone rM_kept iM_undos iM_images rM_fresher iM_fresherSize iM_scale iM_night rM_heardRow rM_cutRow iM_breaths iM_cutMany iM_allBreaths rM_trial rM_words iM_fewestBreaths iM_orderMany iM_orderSum iM_leastOrder rM_often iM_setMany iM_someOf iM_allOf iM_allWeight iM_enoughWeight iM_worthSum iM_firstRest iM_leastDrawn 0 99 b_iM_taped b_iM_size b_x_5991 b_x_5994 b_z_5984 b_iM_hasCourt b_iM_undos b_iM_images b_iM_scale b_iM_breaths b_iM_cutMany e_x_5990_1 (om_b0b40937 kc_0 kc_99)) (cwV 2 hts (wd_V wd_446 wd_447 wd_448 wd_5 (wd_c wd_449)) rfl rfl rfl dv_yX7_number_2 ⟨Nat.le_of_ble_eq_true rfl, Nat.le_of_ble_eq_true rfl⟩) ⟨Pw.fb, recvX7 hK hP (q0 := 0) rfl, fun U hU hW => Pw.to (hP.ms _ hMs) (hD.ms _ hMs) (hK.ms [true, true, false, false] rfl) hE hS hFc hU hW⟩ rfl rfl hl.1 rfl (lv_room (Nat.le_of_ble_eq_true rfl)) dX7_unsureLine_110 ⟨Nat.le_of_ble_eq_true rfl, Nat.le_of_ble_eq_true rfl⟩) hS (fun q _ h => hFc q h) hFc (fun r u t H locs ht hvm hw hB hz1 hk1 hS => ?_)
              have hru9 := hw.2
              have hw := hw.1
              refine ex_9_8 hB (fun x_5996 x_5997 x_5998 x_5999 x_6000 x_6001 x_6002 x_6003 f_6004 b_x_5997 b_x_6000 b_x_6003 e_x_5996_0 e_x_5996_1 e_x_5996_2 e_x_5996_3 e_x_5996_4 hB => ?_)
              obtain ⟨hP, hD⟩ := Bw.goN (ws' := [(oc7 oM iM_thrown rM_tape iM_taped iM_size x_5996 x_5997 x_5998 x_5999 x_6000 x_6001 x_6002 iM_trouble rM_letters x_6003 iM_hasCourt rM_r rM_fresh rM_told rM_read rM_st rM_undone rM_kept iM_undos iM_images rM_fresher iM_fresherSize iM_scale iM_night rM_heardRow rM_cutRow iM_breaths iM_cutMany iM_allBreaths rM_trial rM_words iM_fewestBreaths iM_orderMany iM_orderSum iM_leastOrder rM_often iM_setMany iM_someOf iM_allOf iM_allWeight iM_enoughWeight iM_worthSum iM_firstRest iM_leastDrawn), (arI rM_tape kM_tape 900 fM_tape), (arI rM_letters kM_letters 8 f_6004), (arI rM_fresh kM_fresh 287 fM_fresh), (arI rM_read kM_read 90 fM_read)]) hB rfl ht hP hD _ hMs hk1 hFc rfl
              clear hz1 hk1 hvm ht hB hMs
              rw [← hru9] at e_x_5996_4
              obtain ⟨x_6005, rfl⟩ : ∃ z, z = r := ⟨_, rfl⟩
              have hG := hG.trans (un10_eq e_x_5996_4)
              have lx_6005 := hw.2
              have kl_0 := kc_0
              have kl_99 := kc_99
              clear e_x_5990_1
              clear e_x_5990_2
              refine lv_istore_n (lv' := [(3, .int x_6005), (2, .int x_5906), (1, .int x_5902), (0, .ref oM)]) hx hb dX7_unsureLine_113 rfl hl (by decide) rfl (fun ls hl => ?_)
              refine lv_aload_n hx hb dX7_unsureLine_114 rfl (lv_at hl 3 rfl) ?_
              refine va_get (D := (dC, dI)) (ci := 7) (v := .int x_6003) (C := RX7) (T := TX7) (N := 48) hx hb hts inX7 hown hK hP 0 rfl rfl 13 (by decide) (hts _ wd_380) (fun _ h9 => h9) rfl dX7_unsureLine_115 ?_
              refine lv_if_eq (tgt := 122) hx hb dX7_unsureLine_118 (by decide) (fun c_6006 => ?_) (fun c_6006 => ?_)
              · skip
                have hG := hG.trans (if_pos c_6006)
                have gc_6006 := ti_eq c_6006 rfl kc_0
                exact ((om_5c6c3440 e_x_5980_0 hi1_n_5987 e_x_5996_2 gc_6006)).elim
              · skip
                have hG := hG.trans (if_neg c_6006)
                have gc_6006 := ti_ne c_6006 rfl kc_0
                replace gc_6006 : (-1) * x_6003.toInt + 1 ≤ 0 := om_e3003f79 gc_6006 b_x_6003.1
                exact wq_v hx hb hr 0 trivial (fun t ht hW => ⟨x_5996, x_5997, x_5998, x_5999, x_6000, x_6001, x_6002, x_6003, f_6004, fM_fresh, b_x_5997, b_x_6000, b_x_6003, (om_9348f5ae e_x_5990_0 e_x_5996_0), e_x_5996_1, (om_1fc3dec6 gc_5898 b_x_6003.1), (fun h9 => False.elim (om_a5fe015d gc_6006 h9.1)), r_P, hG, Bw.to hP hD hK ht hW⟩) hS dX7_unsureLine_121 hlocks
            · skip
              have hG := hG.trans (if_neg c_5989)
              have gc_5989 := ti_nle c_5989 rfl rfl
              refine lv_aload_n hx hb dX7_unsureLine_65 rfl (lv_at hl 3 rfl) ?_
              refine va_get (D := (dC, dI)) (ci := 7) (v := .int z_5984) (C := RX7) (T := TX7) (N := 48) hx hb hts inX7 hown hK hP 0 rfl rfl 13 (by decide) (hts _ wd_380) (fun _ h9 => h9) rfl dX7_unsureLine_66 ?_
              refine lv_if_ne (tgt := 96) hx hb dX7_unsureLine_69 (by decide) (fun c_6007 => ?_) (fun c_6007 => ?_)
              · skip
                have hG := hG.trans (if_neg c_6007)
                have gc_6007 := ti_ne c_6007 rfl kc_0
                replace gc_6007 : (-1) * z_5984.toInt + 1 ≤ 0 := om_e3003f79 gc_6007 b_z_5984.1
                obtain ⟨x_6008, ex_6008⟩ : ∃ z : Int32, z = z_5983 + Int32.ofInt 1 := ⟨_, rfl⟩
                have hG := hG.trans (lt_eq ex_6008)
                have vx_6008 : x_6008.toInt = z_5983.toInt + 1 := ti_add (y := 1) ex_6008 rfl kc_1 (om_4e4fce7e hi0_n_5987.1) (om_bae2951a hi0_n_5987.2)
                refine lv_iinc (v := x_6008) (lv' := [(3, .int x_6008), (2, .int x_5906), (1, .int x_5902), (0, .ref oM)]) hx hb dX7_unsureLine_96 hl (k := 0) rfl ex_6008.symm (by decide) rfl (fun ls hl => ?_)
                refine lv_goto (tgt := 55) hx hb dX7_unsureLine_99 (by decide) ?_
                exact ih_n_5987 x_6008 z_5984 z_5985 z_5986 _ _ _ b_z_5984 ⟨(om_83b90de5 hi0_n_5987.1 vx_6008), (om_8267bec5 pl_fM_fresh.2.2.2.1.2 cx_5988 gc_5989 vx_6008)⟩ hi1_n_5987 (ms_lt hm_n_5987 (om_ed22490e vx_6008) (om_e4be4046 pl_fM_fresh.2.2.2.1.2 cx_5988 gc_5989)) hG hP hD hS (lv_sub hl [0, 1, 2, 3] rfl)
              · skip
                have hG := hG.trans (if_pos c_6007)
                have gc_6007 := ti_eq c_6007 rfl kc_0
                exact ((om_2f02dee4 e_x_5980_0 hi1_n_5987 gc_6007)).elim
        exact key_n_5987 (((4 - (0 : Int32).toInt).toNat) + 1) 0 x_5982 x_5980 x_5981 _ _ _ b_x_5982 ⟨(om_b1de7dbe kc_0), (om_bebe011a kc_0)⟩ om_1cb5f934 (Nat.lt_add_one _) hG hP hD hS hl
  · skip
    have hG := hG.trans (if_neg c_5898)
    have gc_5898 := ti_ne c_5898 rfl kc_0
    replace gc_5898 : (-1) * iM_failed.toInt + 1 ≤ 0 := om_e3003f79 gc_5898 b_iM_failed.1
    clear hul
    exact wq_v hx hb hr 0 trivial (fun t ht hW => ⟨iM_at, iM_end, iM_token, iM_whole, iM_nameSize, iM_fault, iM_place, iM_failed, fM_letters, fM_fresh, ⟨b_iM_end.1, b_iM_end.2⟩, ⟨b_iM_nameSize.1, b_iM_nameSize.2⟩, ⟨b_iM_failed.1, b_iM_failed.2⟩, om_1cb5f934, r_T, om_1cb5f934, (fun h9 => False.elim (om_a5fe015d gc_5898 h9.1)), r_P, hG, Bw.to hP hD hK ht hW⟩) hS dX7_unsureLine_7 hlocks
