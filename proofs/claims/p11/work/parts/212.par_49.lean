set_option maxHeartbeats 4000000 in
set_option maxRecDepth 100000 in
theorem tX7_courtLine (l : Launch) (dC : Nat → ClassId) (dI : Nat → Nat → Nat) (sz : Nat) (oM : Nat) (iM_thrown : Int32) (rM_tape : Nat) (fM_tape : Nat → Int32) (kM_tape : ClassId) (iM_taped : Int32) (iM_size : Int32) (iM_at : Int32) (iM_end : Int32) (iM_token : Int32) (iM_whole : Int32) (iM_nameSize : Int32) (iM_fault : Int32) (iM_place : Int32) (iM_trouble : Int32) (rM_letters : Nat) (fM_letters : Nat → Int32) (kM_letters : ClassId) (iM_failed : Int32) (iM_hasCourt : Int32) (rM_r : Nat) (rM_fresh : Nat) (fM_fresh : Nat → Int32) (kM_fresh : ClassId) (rM_told : Nat) (rM_read : Nat) (fM_read : Nat → Int32) (kM_read : ClassId) (rM_st : Nat) (rM_undone : Nat) (rM_kept : Nat) (iM_undos : Int32) (iM_images : Int32) (rM_fresher : Nat) (iM_fresherSize : Int32) (iM_scale : Int32) (iM_night : Int32) (rM_heardRow : Nat) (rM_cutRow : Nat) (iM_breaths : Int32) (iM_cutMany : Int32) (iM_allBreaths : Int32) (rM_trial : Nat) (rM_words : Nat) (iM_fewestBreaths : Int32) (iM_orderMany : Int32) (iM_orderSum : Int32) (iM_leastOrder : Int32) (rM_often : Nat) (iM_setMany : Int32) (iM_someOf : Int32) (iM_allOf : Int32) (iM_allWeight : Int64) (iM_enoughWeight : Int64) (iM_worthSum : Int64) (iM_firstRest : Int32) (iM_leastDrawn : Int32) (b_iM_taped : 0 ≤ iM_taped.toInt ∧ iM_taped.toInt ≤ 900) (b_iM_size : 0 ≤ iM_size.toInt ∧ iM_size.toInt ≤ 900) (b_iM_end : 0 ≤ iM_end.toInt ∧ iM_end.toInt ≤ 900) (b_iM_nameSize : 0 ≤ iM_nameSize.toInt ∧ iM_nameSize.toInt ≤ 900) (b_iM_failed : 0 ≤ iM_failed.toInt ∧ iM_failed.toInt ≤ 1) (b_iM_hasCourt : 0 ≤ iM_hasCourt.toInt ∧ iM_hasCourt.toInt ≤ 1) (b_iM_undos : 0 ≤ iM_undos.toInt ∧ iM_undos.toInt ≤ 16) (b_iM_images : 0 ≤ iM_images.toInt ∧ iM_images.toInt ≤ 3) (b_iM_scale : 1 ≤ iM_scale.toInt ∧ iM_scale.toInt ≤ 1296) (b_iM_breaths : 0 ≤ iM_breaths.toInt ∧ iM_breaths.toInt ≤ 399) (b_iM_cutMany : 0 ≤ iM_cutMany.toInt ∧ iM_cutMany.toInt ≤ 399) (r_T : ImpP (iM_token.toInt = 2) (iM_nameSize.toInt ≤ 8)) (r_P : POk fM_fresh fM_read)  : Met l yX7_courtLine (Cond.code yX7_courtLine cX7_courtLine 1 none :: wG) ({ frames := 8, cells := 0, slots := 0, locals := 199 }) (va_Pc [.ref oM] (Pw dC dI sz [(oc7 oM iM_thrown rM_tape iM_taped iM_size iM_at iM_end iM_token iM_whole iM_nameSize iM_fault iM_place iM_trouble rM_letters iM_failed iM_hasCourt rM_r rM_fresh rM_told rM_read rM_st rM_undone rM_kept iM_undos iM_images rM_fresher iM_fresherSize iM_scale iM_night rM_heardRow rM_cutRow iM_breaths iM_cutMany iM_allBreaths rM_trial rM_words iM_fewestBreaths iM_orderMany iM_orderSum iM_leastOrder rM_often iM_setMany iM_someOf iM_allOf iM_allWeight iM_enoughWeight iM_worthSum iM_firstRest iM_leastDrawn), (arI rM_tape kM_tape 900 fM_tape), (arI rM_letters kM_letters 8 fM_letters), (arI rM_fresh kM_fresh 287 fM_fresh), (arI rM_read kM_read 90 fM_read)] [(kM_tape, .int), (kM_letters, .int), (kM_fresh, .int), (kM_read, .int)])) (va_Qv (fun (_ : Nat) => True) (fun (_ : Nat) (t : State) => ∃ (niM_at : Int32) (niM_end : Int32) (niM_token : Int32) (niM_whole : Int32) (niM_nameSize : Int32) (niM_fault : Int32) (niM_place : Int32) (niM_failed : Int32) (nfM_letters : Nat → Int32) (nfM_fresh : Nat → Int32), (0 ≤ niM_end.toInt ∧ niM_end.toInt ≤ 900) ∧ (0 ≤ niM_nameSize.toInt ∧ niM_nameSize.toInt ≤ 900) ∧ (0 ≤ niM_failed.toInt ∧ niM_failed.toInt ≤ 1) ∧ (iM_end.toInt ≤ niM_end.toInt) ∧ (ImpP (niM_token.toInt = 2) (niM_nameSize.toInt ≤ 8)) ∧ (iM_failed.toInt ≤ niM_failed.toInt) ∧ (ImpP (niM_failed.toInt ≤ 0 ∧ niM_token.toInt = 59 ) (iM_end.toInt + 1 ≤ niM_end.toInt)) ∧ (POk nfM_fresh fM_read) ∧ (PX7_courtLine fM_tape iM_size iM_at iM_end iM_token iM_whole iM_nameSize iM_fault iM_place fM_letters iM_failed fM_fresh = (niM_at, niM_end, niM_token, niM_whole, niM_nameSize, niM_fault, niM_place, niM_failed, nfM_letters, nfM_fresh)) ∧ Bw dC dI (va_A [(oc7 oM iM_thrown rM_tape iM_taped iM_size iM_at iM_end iM_token iM_whole iM_nameSize iM_fault iM_place iM_trouble rM_letters iM_failed iM_hasCourt rM_r rM_fresh rM_told rM_read rM_st rM_undone rM_kept iM_undos iM_images rM_fresher iM_fresherSize iM_scale iM_night rM_heardRow rM_cutRow iM_breaths iM_cutMany iM_allBreaths rM_trial rM_words iM_fewestBreaths iM_orderMany iM_orderSum iM_leastOrder rM_often iM_setMany iM_someOf iM_allOf iM_allWeight iM_enoughWeight iM_worthSum iM_firstRest iM_leastDrawn), (arI rM_tape kM_tape 900 fM_tape), (arI rM_letters kM_letters 8 fM_letters), (arI rM_fresh kM_fresh 287 fM_fresh), (arI rM_read kM_read 90 fM_read)] sz) [(oc7 oM iM_thrown rM_tape iM_taped iM_size niM_at niM_end niM_token niM_whole niM_nameSize niM_fault niM_place iM_trouble rM_letters niM_failed iM_hasCourt rM_r rM_fresh rM_told rM_read rM_st rM_undone rM_kept iM_undos iM_images rM_fresher iM_fresherSize iM_scale iM_night rM_heardRow rM_cutRow iM_breaths iM_cutMany iM_allBreaths rM_trial rM_words iM_fewestBreaths iM_orderMany iM_orderSum iM_leastOrder rM_often iM_setMany iM_someOf iM_allOf iM_allWeight iM_enoughWeight iM_worthSum iM_firstRest iM_leastDrawn), (arI rM_tape kM_tape 900 fM_tape), (arI rM_letters kM_letters 8 nfM_letters), (arI rM_fresh kM_fresh 287 nfM_fresh), (arI rM_read kM_read 90 fM_read)] [(kM_tape, .int), (kM_letters, .int), (kM_fresh, .int), (kM_read, .int)] t) (va_A [(oc7 oM iM_thrown rM_tape iM_taped iM_size iM_at iM_end iM_token iM_whole iM_nameSize iM_fault iM_place iM_trouble rM_letters iM_failed iM_hasCourt rM_r rM_fresh rM_told rM_read rM_st rM_undone rM_kept iM_undos iM_images rM_fresher iM_fresherSize iM_scale iM_night rM_heardRow rM_cutRow iM_breaths iM_cutMany iM_allBreaths rM_trial rM_words iM_fewestBreaths iM_orderMany iM_orderSum iM_leastOrder rM_often iM_setMany iM_someOf iM_allOf iM_allWeight iM_enoughWeight iM_worthSum iM_firstRest iM_leastDrawn), (arI rM_tape kM_tape 900 fM_tape), (arI rM_letters kM_letters 8 fM_letters), (arI rM_fresh kM_fresh 287 fM_fresh), (arI rM_read kM_read 90 fM_read)] sz)) 0 0 (va_A [(oc7 oM iM_thrown rM_tape iM_taped iM_size iM_at iM_end iM_token iM_whole iM_nameSize iM_fault iM_place iM_trouble rM_letters iM_failed iM_hasCourt rM_r rM_fresh rM_told rM_read rM_st rM_undone rM_kept iM_undos iM_images rM_fresher iM_fresherSize iM_scale iM_night rM_heardRow rM_cutRow iM_breaths iM_cutMany iM_allBreaths rM_trial rM_words iM_fewestBreaths iM_orderMany iM_orderSum iM_leastOrder rM_often iM_setMany iM_someOf iM_allOf iM_allWeight iM_enoughWeight iM_worthSum iM_firstRest iM_leastDrawn), (arI rM_tape kM_tape 900 fM_tape), (arI rM_letters kM_letters 8 fM_letters), (arI rM_fresh kM_fresh 287 fM_fresh), (arI rM_read kM_read 90 fM_read)] sz) := by
  refine Met.ofW (cc := cX7_courtLine) (maxL := 1) (ret := none) pnX7 rfl ?_
  intro p e s m args below meth c s₁ B hml hv
  obtain ⟨rfl, hsz, hP, hK, hD0, hE⟩ := hv
  have hx := B.exec
  have hb := B.bytes
  have hr := B.returns
  have hts : ∀ w ∈ wG, w.before ([.ref oM] : List Value).toArray s = true := fun w h => atoms_spec (ws := Cond.code yX7_courtLine cX7_courtLine 1 none :: wG) B.pre w (List.mem_cons_of_mem _ h)
  have hown : s.vm.findClass RX7 = some m.cls := own_of B.named rfl
  have hlocks := B.notSynchronized
  subst hsz
  have hD := hD0.self (sz := s.heap.size)
  generalize hAe : va_A [(oc7 oM iM_thrown rM_tape iM_taped iM_size iM_at iM_end iM_token iM_whole iM_nameSize iM_fault iM_place iM_trouble rM_letters iM_failed iM_hasCourt rM_r rM_fresh rM_told rM_read rM_st rM_undone rM_kept iM_undos iM_images rM_fresher iM_fresherSize iM_scale iM_night rM_heardRow rM_cutRow iM_breaths iM_cutMany iM_allBreaths rM_trial rM_words iM_fewestBreaths iM_orderMany iM_orderSum iM_leastOrder rM_often iM_setMany iM_someOf iM_allOf iM_allWeight iM_enoughWeight iM_worthSum iM_firstRest iM_leastDrawn), (arI rM_tape kM_tape 900 fM_tape), (arI rM_letters kM_letters 8 fM_letters), (arI rM_fresh kM_fresh 287 fM_fresh), (arI rM_read kM_read 90 fM_read)] s.heap.size = A at hD hE ⊢
  have hA : ∀ q : Nat, s.heap.size ≤ q → A q := fun q h => by rw [← hAe]; exact Or.inr h
  have hS : va_S A s.heap s.heap [] := va_S.rf
  have hl := lv_entry ([.ref oM]) (n := 1) (Nat.le_of_ble_eq_true rfl)
  rw [lg_entry_eq]
  generalize (lg_sl ([.ref oM]) ++ List.replicate (1 - (lg_sl ([.ref oM])).length) Slot.unset).toArray = ls at hl ⊢
  have hl : lv_has ls 1 [(0, .ref oM)] := hl
  have hG := PX7_courtLine_eq fM_tape iM_size iM_at iM_end iM_token iM_whole iM_nameSize iM_fault iM_place fM_letters iM_failed fM_fresh
  have pl_fM_fresh := r_P.lins
  refine lv_aload_n hx hb dX7_courtLine_0 rfl (lv_at hl 0 rfl) ?_
  refine va_get (D := (dC, dI)) (ci := 7) (v := .ref rM_fresh) (C := RX7) (T := TX7) (N := 48) hx hb hts inX7 hown hK hP 0 rfl rfl 16 (by decide) (hts _ wd_156) (fun _ h9 => h9) rfl dX7_courtLine_1 ?_
  refine lv_iconst (v := 5) hx hb dX7_courtLine_4 (by decide) ?_
  refine va_iald hx hb hK hP 3 2 rfl rfl (by unfold vp_in; decide) dX7_courtLine_5 ?_
  refine lv_topi (fun x_5466 ex_5466 => ?_)
  have hG := hG.trans (lt_eq ex_5466)
  have cx_5466 : (fM_fresh 5).toInt = x_5466.toInt := congrArg Int32.toInt (show fM_fresh 5 = x_5466 from ex_5466.symm)
  refine lv_if_le (tgt := 18) hx hb dX7_courtLine_6 (by decide) (fun c_5467 => ?_) (fun c_5467 => ?_)
  · skip
    have hG := hG.trans (if_pos c_5467)
    have gc_5467 := ti_le c_5467 rfl kc_0
    refine lv_aload_n hx hb dX7_courtLine_18 rfl (lv_at hl 0 rfl) ?_
    refine va_get (D := (dC, dI)) (ci := 7) (v := .int iM_failed) (C := RX7) (T := TX7) (N := 48) hx hb hts inX7 hown hK hP 0 rfl rfl 13 (by decide) (hts _ wd_380) (fun _ h9 => h9) rfl dX7_courtLine_19 ?_
    refine lv_if_eq (tgt := 26) hx hb dX7_courtLine_22 (by decide) (fun c_5468 => ?_) (fun c_5468 => ?_)
    · skip
      have hG := hG.trans (if_pos c_5468)
      have gc_5468 := ti_eq c_5468 rfl kc_0
      refine lv_aload_n hx hb dX7_courtLine_26 rfl (lv_at hl 0 rfl) ?_
      have hMs := ml_of hD [true, true, true, false, false] (wc := [(oc7 oM iM_thrown rM_tape iM_taped iM_size iM_at iM_end iM_token iM_whole iM_nameSize iM_fault iM_place iM_trouble rM_letters iM_failed iM_hasCourt rM_r rM_fresh rM_told rM_read rM_st rM_undone rM_kept iM_undos iM_images rM_fresher iM_fresherSize iM_scale iM_night rM_heardRow rM_cutRow iM_breaths iM_cutMany iM_allBreaths rM_trial rM_words iM_fewestBreaths iM_orderMany iM_orderSum iM_leastOrder rM_often iM_setMany iM_someOf iM_allOf iM_allWeight iM_enoughWeight iM_worthSum iM_firstRest iM_leastDrawn), (arI rM_tape kM_tape 900 fM_tape), (arI rM_letters kM_letters 8 fM_letters)]) rfl
      have hFc := va_freeM hD hS hA _ hMs
      refine va_callv (va_runV (As := []) (rest := []) ⟨hx, hb, hml, hown, hts⟩ (tX7_next l dC dI _ oM iM_thrown rM_tape fM_tape kM_tape iM_taped iM_size iM_at iM_end iM_token iM_whole iM_nameSize iM_fault iM_place iM_trouble rM_letters fM_letters kM_letters iM_failed iM_hasCourt rM_r rM_fresh rM_told rM_read rM_st rM_undone rM_kept iM_undos iM_images rM_fresher iM_fresherSize iM_scale iM_night rM_heardRow rM_cutRow iM_breaths iM_cutMany iM_allBreaths rM_trial rM_words iM_fewestBreaths iM_orderMany iM_orderSum iM_leastOrder rM_often iM_setMany iM_someOf iM_allOf iM_allWeight iM_enoughWeight iM_worthSum iM_firstRest iM_leastDrawn b_iM_taped b_iM_size b_iM_end b_iM_nameSize b_iM_failed b_iM_hasCourt b_iM_undos b_iM_images b_iM_scale b_iM_breaths b_iM_cutMany r_T) (cwV 0 hts (wd_V wd_400 wd_401 wd_402 wd_5 (wd_c wd_403)) rfl rfl rfl dv_yX7_next_0 ⟨Nat.le_of_ble_eq_true rfl, Nat.le_of_ble_eq_true rfl⟩) ⟨Pw.fb, recvX7 hK hP (q0 := 0) rfl, fun U hU hW => Pw.to (hP.ms _ hMs) (hD.ms _ hMs) (hK.ms [true, true, false, false] rfl) hE hS hFc hU hW⟩ rfl rfl hl.1 rfl (lv_room (Nat.le_of_ble_eq_true rfl)) dX7_courtLine_27 ⟨Nat.le_of_ble_eq_true rfl, Nat.le_of_ble_eq_true rfl⟩) hS (fun q _ h => hFc q h) hFc (fun u t H locs ht hvm hw hB hz1 hk1 hS => ?_)
      refine ex_6_6 hB (fun x_5469 x_5470 x_5471 x_5472 x_5473 f_5474 b_x_5470 b_x_5473 e_x_5469_0 e_x_5469_1 e_x_5469_2 e_x_5469_3 hB => ?_)
      obtain ⟨hP, hD⟩ := Bw.goN (ws' := [(oc7 oM iM_thrown rM_tape iM_taped iM_size x_5469 x_5470 x_5471 x_5472 x_5473 iM_fault iM_place iM_trouble rM_letters iM_failed iM_hasCourt rM_r rM_fresh rM_told rM_read rM_st rM_undone rM_kept iM_undos iM_images rM_fresher iM_fresherSize iM_scale iM_night rM_heardRow rM_cutRow iM_breaths iM_cutMany iM_allBreaths rM_trial rM_words iM_fewestBreaths iM_orderMany iM_orderSum iM_leastOrder rM_often iM_setMany iM_someOf iM_allOf iM_allWeight iM_enoughWeight iM_worthSum iM_firstRest iM_leastDrawn), (arI rM_tape kM_tape 900 fM_tape), (arI rM_letters kM_letters 8 f_5474), (arI rM_fresh kM_fresh 287 fM_fresh), (arI rM_read kM_read 90 fM_read)]) hB rfl ht hP hD _ hMs hk1 hFc rfl
      clear hz1 hk1 hvm ht hB hMs
      have hG := hG.trans (un6_eq e_x_5469_3)
      clear r_T
      refine lv_aload_n hx hb dX7_courtLine_30 rfl (lv_at hl 0 rfl) ?_
      refine va_get (D := (dC, dI)) (ci := 7) (v := .ref rM_fresh) (C := RX7) (T := TX7) (N := 48) hx hb hts inX7 hown hK hP 0 rfl rfl 16 (by decide) (hts _ wd_156) (fun _ h9 => h9) rfl dX7_courtLine_31 ?_
      refine lv_iconst (v := 0) hx hb dX7_courtLine_34 (by decide) ?_
      refine lv_aload_n hx hb dX7_courtLine_35 rfl (lv_at hl 0 rfl) ?_
      obtain ⟨sa_5475, vsa_5475, nsa_5475, fsa_5475, hnsa_5475, hnesa_5475, hfesa_5475, hRsa_5475, hSsa_5475⟩ := hE.2.2.1 (222, "slips", [115, 108, 105, 112, 115]) (by decide)
      have hG := hG.trans (lt_eq hnesa_5475)
      have hG := hG.trans (lt_eq hfesa_5475)
      refine va_ldcS hx hb hown hRsa_5475 dX7_courtLine_36 ?_
      refine lv_iconst (v := 0) hx hb dX7_courtLine_38 (by decide) ?_
      refine lv_bipush (v := 100) hx hb dX7_courtLine_39 (by decide) ?_
      have hMs := ml_of hD [true, true, true, false, false] (wc := [(oc7 oM iM_thrown rM_tape iM_taped iM_size x_5469 x_5470 x_5471 x_5472 x_5473 iM_fault iM_place iM_trouble rM_letters iM_failed iM_hasCourt rM_r rM_fresh rM_told rM_read rM_st rM_undone rM_kept iM_undos iM_images rM_fresher iM_fresherSize iM_scale iM_night rM_heardRow rM_cutRow iM_breaths iM_cutMany iM_allBreaths rM_trial rM_words iM_fewestBreaths iM_orderMany iM_orderSum iM_leastOrder rM_often iM_setMany iM_someOf iM_allOf iM_allWeight iM_enoughWeight iM_worthSum iM_firstRest iM_leastDrawn), (arI rM_tape kM_tape 900 fM_tape), (arI rM_letters kM_letters 8 f_5474)]) rfl
      have hFc := va_freeM hD hS hA _ hMs
      refine va_calli (va_runV (As := [.ref sa_5475, .int 0, .int 100]) (rest := [.int 0, .ref rM_fresh]) ⟨hx, hb, hml, hown, hts⟩ (tX7_after l dC dI _ oM iM_thrown rM_tape fM_tape kM_tape iM_taped iM_size x_5469 x_5470 x_5471 x_5472 x_5473 iM_fault iM_place iM_trouble rM_letters f_5474 kM_letters iM_failed iM_hasCourt rM_r rM_fresh rM_told rM_read rM_st rM_undone rM_kept iM_undos iM_images rM_fresher iM_fresherSize iM_scale iM_night rM_heardRow rM_cutRow iM_breaths iM_cutMany iM_allBreaths rM_trial rM_words iM_fewestBreaths iM_orderMany iM_orderSum iM_leastOrder rM_often iM_setMany iM_someOf iM_allOf iM_allWeight iM_enoughWeight iM_worthSum iM_firstRest iM_leastDrawn sa_5475 0 100 vsa_5475 nsa_5475 fsa_5475 b_iM_taped b_iM_size b_x_5470 b_x_5473 b_iM_failed b_iM_hasCourt b_iM_undos b_iM_images b_iM_scale b_iM_breaths b_iM_cutMany e_x_5469_1 (Nat.le_trans (Nat.le_of_eq hnesa_5475) (by decide)) (om_f028b7c4 kc_0 kc_100)) (cwV 3 hts (wd_V wd_434 wd_435 wd_436 wd_5 (wd_c wd_437)) rfl rfl rfl dv_yX7_after_3 ⟨Nat.le_of_ble_eq_true rfl, Nat.le_of_ble_eq_true rfl⟩) ⟨Pq.fb, recvX7 hK hP (q0 := 0) rfl, fun U hU hW => Pq.to (hP.ms _ hMs) (hD.ms _ hMs) (hK.ms [true, true, false, false] rfl) hSsa_5475 hE hS hFc hU hW⟩ rfl rfl hl.1 rfl (lv_room (Nat.le_of_ble_eq_true rfl)) dX7_courtLine_41 ⟨Nat.le_of_ble_eq_true rfl, Nat.le_of_ble_eq_true rfl⟩) hS (fun q _ h => hFc q h) hFc (fun r u t H locs ht hvm hw hB hz1 hk1 hS => ?_)
      have hru9 := hw.2
      have hw := hw.1
      refine ex_9_8 hB (fun x_5476 x_5477 x_5478 x_5479 x_5480 x_5481 x_5482 x_5483 f_5484 b_x_5477 b_x_5480 b_x_5483 e_x_5476_0 e_x_5476_1 e_x_5476_2 e_x_5476_3 e_x_5476_4 hB => ?_)
      obtain ⟨hP, hD⟩ := Bw.goN (ws' := [(oc7 oM iM_thrown rM_tape iM_taped iM_size x_5476 x_5477 x_5478 x_5479 x_5480 x_5481 x_5482 iM_trouble rM_letters x_5483 iM_hasCourt rM_r rM_fresh rM_told rM_read rM_st rM_undone rM_kept iM_undos iM_images rM_fresher iM_fresherSize iM_scale iM_night rM_heardRow rM_cutRow iM_breaths iM_cutMany iM_allBreaths rM_trial rM_words iM_fewestBreaths iM_orderMany iM_orderSum iM_leastOrder rM_often iM_setMany iM_someOf iM_allOf iM_allWeight iM_enoughWeight iM_worthSum iM_firstRest iM_leastDrawn), (arI rM_tape kM_tape 900 fM_tape), (arI rM_letters kM_letters 8 f_5484), (arI rM_fresh kM_fresh 287 fM_fresh), (arI rM_read kM_read 90 fM_read)]) hB rfl ht hP hD _ hMs hk1 hFc rfl
      clear hz1 hk1 hvm ht hB hMs
      rw [← hru9] at e_x_5476_4
      obtain ⟨x_5485, rfl⟩ : ∃ z, z = r := ⟨_, rfl⟩
      have hG := hG.trans (un10_eq e_x_5476_4)
      have lx_5485 := hw.2
      have kl_0 := kc_0
      have kl_100 := kc_100
      clear e_x_5469_1
      clear e_x_5469_2
      refine va_iast hx hb hK hP hD hS 3 2 rfl rfl (by unfold vp_in; decide) dX7_courtLine_44 (fun H locs hP hD hS => ?_)
      obtain ⟨f_5486, ef_5486⟩ : ∃ g : Nat → Int32, g = upd fM_fresh (0 : Int32).toNatClampNeg x_5485 := ⟨_, rfl⟩
      rw [← ef_5486] at hP hD
      have hG := hG.trans (lt_eq ef_5486)
      obtain ⟨hP, hD⟩ := wl2 (ws' := [(oc7 oM iM_thrown rM_tape iM_taped iM_size x_5476 x_5477 x_5478 x_5479 x_5480 x_5481 x_5482 iM_trouble rM_letters x_5483 iM_hasCourt rM_r rM_fresh rM_told rM_read rM_st rM_undone rM_kept iM_undos iM_images rM_fresher iM_fresherSize iM_scale iM_night rM_heardRow rM_cutRow iM_breaths iM_cutMany iM_allBreaths rM_trial rM_words iM_fewestBreaths iM_orderMany iM_orderSum iM_leastOrder rM_often iM_setMany iM_someOf iM_allOf iM_allWeight iM_enoughWeight iM_worthSum iM_firstRest iM_leastDrawn), (arI rM_tape kM_tape 900 fM_tape), (arI rM_letters kM_letters 8 f_5484), (arI rM_fresh kM_fresh 287 f_5486), (arI rM_read kM_read 90 fM_read)]) hP hD rfl
      have pk_f_5486 : POk f_5486 fM_read := POk.put r_P ef_5486 (Or.inl (by have q9 : ((0 : Int32).toNatClampNeg : Nat) = 0 := rfl; omega))
      have pl_f_5486 := pk_f_5486.lins
      refine lv_aload_n hx hb dX7_courtLine_45 rfl (lv_at hl 0 rfl) ?_
      refine va_get (D := (dC, dI)) (ci := 7) (v := .int x_5483) (C := RX7) (T := TX7) (N := 48) hx hb hts inX7 hown hK hP 0 rfl rfl 13 (by decide) (hts _ wd_380) (fun _ h9 => h9) rfl dX7_courtLine_46 ?_
      refine lv_if_ne (tgt := 59) hx hb dX7_courtLine_49 (by decide) (fun c_5487 => ?_) (fun c_5487 => ?_)
      · skip
        have hG := hG.trans (if_neg c_5487)
        have gc_5487 := ti_ne c_5487 rfl kc_0
        replace gc_5487 : (-1) * x_5483.toInt + 1 ≤ 0 := om_e3003f79 gc_5487 b_x_5483.1
        exact wq_v hx hb hr 0 trivial (fun t ht hW => ⟨x_5476, x_5477, x_5478, x_5479, x_5480, x_5481, x_5482, x_5483, f_5484, f_5486, b_x_5477, b_x_5480, b_x_5483, (om_9348f5ae e_x_5469_0 e_x_5476_0), e_x_5476_1, (om_1fc3dec6 gc_5468 b_x_5483.1), (fun h9 => False.elim (om_a5fe015d gc_5487 h9.1)), pk_f_5486, hG, Bw.to hP hD hK ht hW⟩) hS dX7_courtLine_59 hlocks
      · skip
        have hG := hG.trans (if_pos c_5487)
        have gc_5487 := ti_eq c_5487 rfl kc_0
        refine lv_aload_n hx hb dX7_courtLine_52 rfl (lv_at hl 0 rfl) ?_
        refine va_get (D := (dC, dI)) (ci := 7) (v := .ref rM_fresh) (C := RX7) (T := TX7) (N := 48) hx hb hts inX7 hown hK hP 0 rfl rfl 16 (by decide) (hts _ wd_156) (fun _ h9 => h9) rfl dX7_courtLine_53 ?_
        refine lv_iconst (v := 5) hx hb dX7_courtLine_56 (by decide) ?_
        refine lv_iconst (v := 1) hx hb dX7_courtLine_57 (by decide) ?_
        refine va_iast hx hb hK hP hD hS 3 2 rfl rfl (by unfold vp_in; decide) dX7_courtLine_58 (fun H locs hP hD hS => ?_)
        obtain ⟨f_5488, ef_5488⟩ : ∃ g : Nat → Int32, g = upd f_5486 (5 : Int32).toNatClampNeg (1 : Int32) := ⟨_, rfl⟩
        rw [← ef_5488] at hP hD
        have hG := hG.trans (lt_eq ef_5488)
        obtain ⟨hP, hD⟩ := wl2 (ws' := [(oc7 oM iM_thrown rM_tape iM_taped iM_size x_5476 x_5477 x_5478 x_5479 x_5480 x_5481 x_5482 iM_trouble rM_letters x_5483 iM_hasCourt rM_r rM_fresh rM_told rM_read rM_st rM_undone rM_kept iM_undos iM_images rM_fresher iM_fresherSize iM_scale iM_night rM_heardRow rM_cutRow iM_breaths iM_cutMany iM_allBreaths rM_trial rM_words iM_fewestBreaths iM_orderMany iM_orderSum iM_leastOrder rM_often iM_setMany iM_someOf iM_allOf iM_allWeight iM_enoughWeight iM_worthSum iM_firstRest iM_leastDrawn), (arI rM_tape kM_tape 900 fM_tape), (arI rM_letters kM_letters 8 f_5484), (arI rM_fresh kM_fresh 287 f_5488), (arI rM_read kM_read 90 fM_read)]) hP hD rfl
        have pk_f_5488 : POk f_5488 fM_read := POk.put pk_f_5486 ef_5488 (Or.inr (Or.inr (Or.inl (by have q9 : ((5 : Int32).toNatClampNeg : Nat) = 5 := rfl; have q8 := kc_1; omega))))
        have pl_f_5488 := pk_f_5488.lins
        exact wq_v hx hb hr 0 trivial (fun t ht hW => ⟨x_5476, x_5477, x_5478, x_5479, x_5480, x_5481, x_5482, x_5483, f_5484, f_5488, b_x_5477, b_x_5480, b_x_5483, (om_9348f5ae e_x_5469_0 e_x_5476_0), e_x_5476_1, (om_1fc3dec6 gc_5468 b_x_5483.1), (fun h9 => (om_7ed234da e_x_5469_0 (e_x_5476_3 ⟨(om_02e9bb08 gc_5487), h9.2⟩))), pk_f_5488, hG, Bw.to hP hD hK ht hW⟩) hS dX7_courtLine_59 hlocks
    · skip
      have hG := hG.trans (if_neg c_5468)
      have gc_5468 := ti_ne c_5468 rfl kc_0
      replace gc_5468 : (-1) * iM_failed.toInt + 1 ≤ 0 := om_e3003f79 gc_5468 b_iM_failed.1
      exact wq_v hx hb hr 0 trivial (fun t ht hW => ⟨iM_at, iM_end, iM_token, iM_whole, iM_nameSize, iM_fault, iM_place, iM_failed, fM_letters, fM_fresh, ⟨b_iM_end.1, b_iM_end.2⟩, ⟨b_iM_nameSize.1, b_iM_nameSize.2⟩, ⟨b_iM_failed.1, b_iM_failed.2⟩, om_1cb5f934, r_T, om_1cb5f934, (fun h9 => False.elim (om_a5fe015d gc_5468 h9.1)), r_P, hG, Bw.to hP hD hK ht hW⟩) hS dX7_courtLine_25 hlocks
  · skip
    have hG := hG.trans (if_neg c_5467)
    have gc_5467 := ti_nle c_5467 rfl kc_0
    refine lv_aload_n hx hb dX7_courtLine_9 rfl (lv_at hl 0 rfl) ?_
    refine lv_iconst (v := 3) hx hb dX7_courtLine_10 (by decide) ?_
    refine lv_aload_n hx hb dX7_courtLine_11 rfl (lv_at hl 0 rfl) ?_
    refine va_get (D := (dC, dI)) (ci := 7) (v := .int iM_at) (C := RX7) (T := TX7) (N := 48) hx hb hts inX7 hown hK hP 0 rfl rfl 4 (by decide) (hts _ wd_384) (fun _ h9 => h9) rfl dX7_courtLine_12 ?_
    have hMs := ml_of hD [true, false, false, false, false] (wc := [(oc7 oM iM_thrown rM_tape iM_taped iM_size iM_at iM_end iM_token iM_whole iM_nameSize iM_fault iM_place iM_trouble rM_letters iM_failed iM_hasCourt rM_r rM_fresh rM_told rM_read rM_st rM_undone rM_kept iM_undos iM_images rM_fresher iM_fresherSize iM_scale iM_night rM_heardRow rM_cutRow iM_breaths iM_cutMany iM_allBreaths rM_trial rM_words iM_fewestBreaths iM_orderMany iM_orderSum iM_leastOrder rM_often iM_setMany iM_someOf iM_allOf iM_allWeight iM_enoughWeight iM_worthSum iM_firstRest iM_leastDrawn)]) rfl
    have hFc := va_freeM hD hS hA _ hMs
    refine va_callv (va_runV (As := [.int 3, .int iM_at]) (rest := []) ⟨hx, hb, hml, hown, hts⟩ (tX7_wrong l dC dI _ oM iM_thrown rM_tape iM_taped iM_size iM_at iM_end iM_token iM_whole iM_nameSize iM_fault iM_place iM_trouble rM_letters iM_failed iM_hasCourt rM_r rM_fresh rM_told rM_read rM_st rM_undone rM_kept iM_undos iM_images rM_fresher iM_fresherSize iM_scale iM_night rM_heardRow rM_cutRow iM_breaths iM_cutMany iM_allBreaths rM_trial rM_words iM_fewestBreaths iM_orderMany iM_orderSum iM_leastOrder rM_often iM_setMany iM_someOf iM_allOf iM_allWeight iM_enoughWeight iM_worthSum iM_firstRest iM_leastDrawn 3 iM_at b_iM_taped b_iM_size b_iM_end b_iM_nameSize b_iM_failed b_iM_hasCourt b_iM_undos b_iM_images b_iM_scale b_iM_breaths b_iM_cutMany r_T) (cwV 2 hts (wd_V wd_430 wd_431 wd_432 wd_5 (wd_c wd_433)) rfl rfl rfl dv_yX7_wrong_2 ⟨Nat.le_of_ble_eq_true rfl, Nat.le_of_ble_eq_true rfl⟩) ⟨Pw.fb, recvX7 hK hP (q0 := 0) rfl, fun U hU hW => Pw.to (hP.ms _ hMs) (hD.ms _ hMs) (hK.ms [false, false, false, false] rfl) hE hS hFc hU hW⟩ rfl rfl hl.1 rfl (lv_room (Nat.le_of_ble_eq_true rfl)) dX7_courtLine_15 ⟨Nat.le_of_ble_eq_true rfl, Nat.le_of_ble_eq_true rfl⟩) hS (fun q _ h => hFc q h) hFc (fun u t H locs ht hvm hw hB hz1 hk1 hS => ?_)
    refine ex_3_3 hB (fun x_5489 x_5490 x_5491 b_x_5491 e_x_5489_0 e_x_5489_1 hB => ?_)
    obtain ⟨hP, hD⟩ := Bw.goN (ws' := [(oc7 oM iM_thrown rM_tape iM_taped iM_size iM_at iM_end iM_token iM_whole iM_nameSize x_5489 x_5490 iM_trouble rM_letters x_5491 iM_hasCourt rM_r rM_fresh rM_told rM_read rM_st rM_undone rM_kept iM_undos iM_images rM_fresher iM_fresherSize iM_scale iM_night rM_heardRow rM_cutRow iM_breaths iM_cutMany iM_allBreaths rM_trial rM_words iM_fewestBreaths iM_orderMany iM_orderSum iM_leastOrder rM_often iM_setMany iM_someOf iM_allOf iM_allWeight iM_enoughWeight iM_worthSum iM_firstRest iM_leastDrawn), (arI rM_tape kM_tape 900 fM_tape), (arI rM_letters kM_letters 8 fM_letters), (arI rM_fresh kM_fresh 287 fM_fresh), (arI rM_read kM_read 90 fM_read)]) hB rfl ht hP hD _ hMs hk1 hFc rfl
    clear hz1 hk1 hvm ht hB hMs
    have hG := hG.trans (un3_eq e_x_5489_1)
    refine lv_aload_n hx hb dX7_courtLine_18 rfl (lv_at hl 0 rfl) ?_
    refine va_get (D := (dC, dI)) (ci := 7) (v := .int x_5491) (C := RX7) (T := TX7) (N := 48) hx hb hts inX7 hown hK hP 0 rfl rfl 13 (by decide) (hts _ wd_380) (fun _ h9 => h9) rfl dX7_courtLine_19 ?_
    refine lv_if_eq (tgt := 26) hx hb dX7_courtLine_22 (by decide) (fun c_5492 => ?_) (fun c_5492 => ?_)
    · skip
      have hG := hG.trans (if_pos c_5492)
      have gc_5492 := ti_eq c_5492 rfl kc_0
      exact ((om_b1155cdc e_x_5489_0 gc_5492)).elim
    · skip
      have hG := hG.trans (if_neg c_5492)
      have gc_5492 := ti_ne c_5492 rfl kc_0
      replace gc_5492 : (-1) * x_5491.toInt + 1 ≤ 0 := om_e3003f79 gc_5492 b_x_5491.1
      exact wq_v hx hb hr 0 trivial (fun t ht hW => ⟨iM_at, iM_end, iM_token, iM_whole, iM_nameSize, x_5489, x_5490, x_5491, fM_letters, fM_fresh, ⟨b_iM_end.1, b_iM_end.2⟩, ⟨b_iM_nameSize.1, b_iM_nameSize.2⟩, b_x_5491, om_1cb5f934, r_T, (om_00f1c5dd b_iM_failed.2 e_x_5489_0), (fun h9 => False.elim (om_92495247 e_x_5489_0 h9.1)), r_P, hG, Bw.to hP hD hK ht hW⟩) hS dX7_courtLine_25 hlocks
set_option maxHeartbeats 4000000 in
set_option maxRecDepth 100000 in
theorem tX7_wordLine (l : Launch) (dC : Nat → ClassId) (dI : Nat → Nat → Nat) (sz : Nat) (oM : Nat) (iM_thrown : Int32) (rM_tape : Nat) (fM_tape : Nat → Int32) (kM_tape : ClassId) (iM_taped : Int32) (iM_size : Int32) (iM_at : Int32) (iM_end : Int32) (iM_token : Int32) (iM_whole : Int32) (iM_nameSize : Int32) (iM_fault : Int32) (iM_place : Int32) (iM_trouble : Int32) (rM_letters : Nat) (fM_letters : Nat → Int32) (kM_letters : ClassId) (iM_failed : Int32) (iM_hasCourt : Int32) (rM_r : Nat) (rM_fresh : Nat) (fM_fresh : Nat → Int32) (kM_fresh : ClassId) (rM_told : Nat) (rM_read : Nat) (fM_read : Nat → Int32) (kM_read : ClassId) (rM_st : Nat) (rM_undone : Nat) (rM_kept : Nat) (iM_undos : Int32) (iM_images : Int32) (rM_fresher : Nat) (fM_fresher : Nat → Int32) (kM_fresher : ClassId) (iM_fresherSize : Int32) (iM_scale : Int32) (iM_night : Int32) (rM_heardRow : Nat) (rM_cutRow : Nat) (iM_breaths : Int32) (iM_cutMany : Int32) (iM_allBreaths : Int32) (rM_trial : Nat) (rM_words : Nat) (iM_fewestBreaths : Int32) (iM_orderMany : Int32) (iM_orderSum : Int32) (iM_leastOrder : Int32) (rM_often : Nat) (iM_setMany : Int32) (iM_someOf : Int32) (iM_allOf : Int32) (iM_allWeight : Int64) (iM_enoughWeight : Int64) (iM_worthSum : Int64) (iM_firstRest : Int32) (iM_leastDrawn : Int32) (b_iM_taped : 0 ≤ iM_taped.toInt ∧ iM_taped.toInt ≤ 900) (b_iM_size : 0 ≤ iM_size.toInt ∧ iM_size.toInt ≤ 900) (b_iM_end : 0 ≤ iM_end.toInt ∧ iM_end.toInt ≤ 900) (b_iM_nameSize : 0 ≤ iM_nameSize.toInt ∧ iM_nameSize.toInt ≤ 900) (b_iM_failed : 0 ≤ iM_failed.toInt ∧ iM_failed.toInt ≤ 1) (b_iM_hasCourt : 0 ≤ iM_hasCourt.toInt ∧ iM_hasCourt.toInt ≤ 1) (b_iM_undos : 0 ≤ iM_undos.toInt ∧ iM_undos.toInt ≤ 16) (b_iM_images : 0 ≤ iM_images.toInt ∧ iM_images.toInt ≤ 3) (b_iM_scale : 1 ≤ iM_scale.toInt ∧ iM_scale.toInt ≤ 1296) (b_iM_breaths : 0 ≤ iM_breaths.toInt ∧ iM_breaths.toInt ≤ 399) (b_iM_cutMany : 0 ≤ iM_cutMany.toInt ∧ iM_cutMany.toInt ≤ 399) (r_T : ImpP (iM_token.toInt = 2) (iM_nameSize.toInt ≤ 8)) (r_P : POk fM_fresh fM_read) (hwl : ImpP (iM_failed.toInt ≤ 0) ((fM_fresh 2).toInt ≤ 9)) : Met l yX7_wordLine (Cond.code yX7_wordLine cX7_wordLine 2 none :: wG) ({ frames := 8, cells := 0, slots := 0, locals := 199 }) (va_Pc [.ref oM] (Pw dC dI sz [(oc7 oM iM_thrown rM_tape iM_taped iM_size iM_at iM_end iM_token iM_whole iM_nameSize iM_fault iM_place iM_trouble rM_letters iM_failed iM_hasCourt rM_r rM_fresh rM_told rM_read rM_st rM_undone rM_kept iM_undos iM_images rM_fresher iM_fresherSize iM_scale iM_night rM_heardRow rM_cutRow iM_breaths iM_cutMany iM_allBreaths rM_trial rM_words iM_fewestBreaths iM_orderMany iM_orderSum iM_leastOrder rM_often iM_setMany iM_someOf iM_allOf iM_allWeight iM_enoughWeight iM_worthSum iM_firstRest iM_leastDrawn), (arI rM_tape kM_tape 900 fM_tape), (arI rM_letters kM_letters 8 fM_letters), (arI rM_fresh kM_fresh 287 fM_fresh), (arI rM_read kM_read 90 fM_read), (arI rM_fresher kM_fresher 8 fM_fresher)] [(kM_tape, .int), (kM_letters, .int), (kM_fresh, .int), (kM_read, .int), (kM_fresher, .int)])) (va_Qv (fun (_ : Nat) => True) (fun (_ : Nat) (t : State) => ∃ (niM_at : Int32) (niM_end : Int32) (niM_token : Int32) (niM_whole : Int32) (niM_nameSize : Int32) (niM_fault : Int32) (niM_place : Int32) (niM_failed : Int32) (niM_fresherSize : Int32) (nfM_letters : Nat → Int32) (nfM_fresh : Nat → Int32) (nfM_read : Nat → Int32) (nfM_fresher : Nat → Int32), (0 ≤ niM_end.toInt ∧ niM_end.toInt ≤ 900) ∧ (0 ≤ niM_nameSize.toInt ∧ niM_nameSize.toInt ≤ 900) ∧ (0 ≤ niM_failed.toInt ∧ niM_failed.toInt ≤ 1) ∧ (iM_end.toInt ≤ niM_end.toInt) ∧ (ImpP (niM_token.toInt = 2) (niM_nameSize.toInt ≤ 8)) ∧ (iM_failed.toInt ≤ niM_failed.toInt) ∧ (ImpP (niM_failed.toInt ≤ 0 ∧ niM_token.toInt = 59 ) (iM_end.toInt + 1 ≤ niM_end.toInt)) ∧ (POk nfM_fresh nfM_read) ∧ (PX7_wordLine fM_tape iM_size iM_at iM_end iM_token iM_whole iM_nameSize iM_fault iM_place fM_letters iM_failed fM_fresh fM_read fM_fresher iM_fresherSize = (niM_at, niM_end, niM_token, niM_whole, niM_nameSize, niM_fault, niM_place, niM_failed, niM_fresherSize, nfM_letters, nfM_fresh, nfM_read, nfM_fresher)) ∧ Bw dC dI (va_A [(oc7 oM iM_thrown rM_tape iM_taped iM_size iM_at iM_end iM_token iM_whole iM_nameSize iM_fault iM_place iM_trouble rM_letters iM_failed iM_hasCourt rM_r rM_fresh rM_told rM_read rM_st rM_undone rM_kept iM_undos iM_images rM_fresher iM_fresherSize iM_scale iM_night rM_heardRow rM_cutRow iM_breaths iM_cutMany iM_allBreaths rM_trial rM_words iM_fewestBreaths iM_orderMany iM_orderSum iM_leastOrder rM_often iM_setMany iM_someOf iM_allOf iM_allWeight iM_enoughWeight iM_worthSum iM_firstRest iM_leastDrawn), (arI rM_tape kM_tape 900 fM_tape), (arI rM_letters kM_letters 8 fM_letters), (arI rM_fresh kM_fresh 287 fM_fresh), (arI rM_read kM_read 90 fM_read), (arI rM_fresher kM_fresher 8 fM_fresher)] sz) [(oc7 oM iM_thrown rM_tape iM_taped iM_size niM_at niM_end niM_token niM_whole niM_nameSize niM_fault niM_place iM_trouble rM_letters niM_failed iM_hasCourt rM_r rM_fresh rM_told rM_read rM_st rM_undone rM_kept iM_undos iM_images rM_fresher niM_fresherSize iM_scale iM_night rM_heardRow rM_cutRow iM_breaths iM_cutMany iM_allBreaths rM_trial rM_words iM_fewestBreaths iM_orderMany iM_orderSum iM_leastOrder rM_often iM_setMany iM_someOf iM_allOf iM_allWeight iM_enoughWeight iM_worthSum iM_firstRest iM_leastDrawn), (arI rM_tape kM_tape 900 fM_tape), (arI rM_letters kM_letters 8 nfM_letters), (arI rM_fresh kM_fresh 287 nfM_fresh), (arI rM_read kM_read 90 nfM_read), (arI rM_fresher kM_fresher 8 nfM_fresher)] [(kM_tape, .int), (kM_letters, .int), (kM_fresh, .int), (kM_read, .int), (kM_fresher, .int)] t) (va_A [(oc7 oM iM_thrown rM_tape iM_taped iM_size iM_at iM_end iM_token iM_whole iM_nameSize iM_fault iM_place iM_trouble rM_letters iM_failed iM_hasCourt rM_r rM_fresh rM_told rM_read rM_st rM_undone rM_kept iM_undos iM_images rM_fresher iM_fresherSize iM_scale iM_night rM_heardRow rM_cutRow iM_breaths iM_cutMany iM_allBreaths rM_trial rM_words iM_fewestBreaths iM_orderMany iM_orderSum iM_leastOrder rM_often iM_setMany iM_someOf iM_allOf iM_allWeight iM_enoughWeight iM_worthSum iM_firstRest iM_leastDrawn), (arI rM_tape kM_tape 900 fM_tape), (arI rM_letters kM_letters 8 fM_letters), (arI rM_fresh kM_fresh 287 fM_fresh), (arI rM_read kM_read 90 fM_read), (arI rM_fresher kM_fresher 8 fM_fresher)] sz)) 0 0 (va_A [(oc7 oM iM_thrown rM_tape iM_taped iM_size iM_at iM_end iM_token iM_whole iM_nameSize iM_fault iM_place iM_trouble rM_letters iM_failed iM_hasCourt rM_r rM_fresh rM_told rM_read rM_st rM_undone rM_kept iM_undos iM_images rM_fresher iM_fresherSize iM_scale iM_night rM_heardRow rM_cutRow iM_breaths iM_cutMany iM_allBreaths rM_trial rM_words iM_fewestBreaths iM_orderMany iM_orderSum iM_leastOrder rM_often iM_setMany iM_someOf iM_allOf iM_allWeight iM_enoughWeight iM_worthSum iM_firstRest iM_leastDrawn), (arI rM_tape kM_tape 900 fM_tape), (arI rM_letters kM_letters 8 fM_letters), (arI rM_fresh kM_fresh 287 fM_fresh), (arI rM_read kM_read 90 fM_read), (arI rM_fresher kM_fresher 8 fM_fresher)] sz) := by
  refine Met.ofW (cc := cX7_wordLine) (maxL := 2) (ret := none) pnX7 rfl ?_
  intro p e s m args below meth c s₁ B hml hv
  obtain ⟨rfl, hsz, hP, hK, hD0, hE⟩ := hv
  have hx := B.exec
  have hb := B.bytes
  have hr := B.returns
  have hts : ∀ w ∈ wG, w.before ([.ref oM] : List Value).toArray s = true := fun w h => atoms_spec (ws := Cond.code yX7_wordLine cX7_wordLine 2 none :: wG) B.pre w (List.mem_cons_of_mem _ h)
  have hown : s.vm.findClass RX7 = some m.cls := own_of B.named rfl
  have hlocks := B.notSynchronized
  subst hsz
  have hD := hD0.self (sz := s.heap.size)
  generalize hAe : va_A [(oc7 oM iM_thrown rM_tape iM_taped iM_size iM_at iM_end iM_token iM_whole iM_nameSize iM_fault iM_place iM_trouble rM_letters iM_failed iM_hasCourt rM_r rM_fresh rM_told rM_read rM_st rM_undone rM_kept iM_undos iM_images rM_fresher iM_fresherSize iM_scale iM_night rM_heardRow rM_cutRow iM_breaths iM_cutMany iM_allBreaths rM_trial rM_words iM_fewestBreaths iM_orderMany iM_orderSum iM_leastOrder rM_often iM_setMany iM_someOf iM_allOf iM_allWeight iM_enoughWeight iM_worthSum iM_firstRest iM_leastDrawn), (arI rM_tape kM_tape 900 fM_tape), (arI rM_letters kM_letters 8 fM_letters), (arI rM_fresh kM_fresh 287 fM_fresh), (arI rM_read kM_read 90 fM_read), (arI rM_fresher kM_fresher 8 fM_fresher)] s.heap.size = A at hD hE ⊢
  have hA : ∀ q : Nat, s.heap.size ≤ q → A q := fun q h => by rw [← hAe]; exact Or.inr h
  have hS : va_S A s.heap s.heap [] := va_S.rf
  have hl := lv_entry ([.ref oM]) (n := 2) (Nat.le_of_ble_eq_true rfl)
  rw [lg_entry_eq]
  generalize (lg_sl ([.ref oM]) ++ List.replicate (2 - (lg_sl ([.ref oM])).length) Slot.unset).toArray = ls at hl ⊢
  have hl : lv_has ls 2 [(0, .ref oM)] := hl
  have hG := PX7_wordLine_eq fM_tape iM_size iM_at iM_end iM_token iM_whole iM_nameSize iM_fault iM_place fM_letters iM_failed fM_fresh fM_read fM_fresher iM_fresherSize
  have pl_fM_fresh := r_P.lins
  refine lv_aload_n hx hb dX7_wordLine_0 rfl (lv_at hl 0 rfl) ?_
  refine va_get (D := (dC, dI)) (ci := 7) (v := .int iM_failed) (C := RX7) (T := TX7) (N := 48) hx hb hts inX7 hown hK hP 0 rfl rfl 13 (by decide) (hts _ wd_380) (fun _ h9 => h9) rfl dX7_wordLine_1 ?_
  refine lv_if_eq (tgt := 8) hx hb dX7_wordLine_4 (by decide) (fun c_5525 => ?_) (fun c_5525 => ?_)
  · skip
    have hG := hG.trans (if_pos c_5525)
    have gc_5525 := ti_eq c_5525 rfl kc_0
    have h_5526 : (fM_fresh 2).toInt ≤ 9 := hwl (om_02e9bb08 gc_5525)
    clear hwl
    refine lv_aload_n hx hb dX7_wordLine_8 rfl (lv_at hl 0 rfl) ?_
    have hFc := va_freeI hD hS hA
    refine va_callv (va_runV (As := []) (rest := []) ⟨hx, hb, hml, hown, hts⟩ (tX7_newName l dC dI _ oM iM_thrown rM_tape fM_tape kM_tape iM_taped iM_size iM_at iM_end iM_token iM_whole iM_nameSize iM_fault iM_place iM_trouble rM_letters fM_letters kM_letters iM_failed iM_hasCourt rM_r rM_fresh fM_fresh kM_fresh rM_told rM_read fM_read kM_read rM_st rM_undone rM_kept iM_undos iM_images rM_fresher fM_fresher kM_fresher iM_fresherSize iM_scale iM_night rM_heardRow rM_cutRow iM_breaths iM_cutMany iM_allBreaths rM_trial rM_words iM_fewestBreaths iM_orderMany iM_orderSum iM_leastOrder rM_often iM_setMany iM_someOf iM_allOf iM_allWeight iM_enoughWeight iM_worthSum iM_firstRest iM_leastDrawn b_iM_taped b_iM_size b_iM_end b_iM_nameSize b_iM_failed b_iM_hasCourt b_iM_undos b_iM_images b_iM_scale b_iM_breaths b_iM_cutMany r_T r_P) (cwV 0 hts (wd_V wd_462 wd_463 wd_464 wd_5 (wd_c wd_465)) rfl rfl rfl dv_yX7_newName_0 ⟨Nat.le_of_ble_eq_true rfl, Nat.le_of_ble_eq_true rfl⟩) ⟨Pw.fb, recvX7 hK hP (q0 := 0) rfl, fun U hU hW => Pw.to hP hD hK hE hS hFc hU hW⟩ rfl rfl hl.1 rfl (lv_room (Nat.le_of_ble_eq_true rfl)) dX7_wordLine_9 ⟨Nat.le_of_ble_eq_true rfl, Nat.le_of_ble_eq_true rfl⟩) hS (fun q _ h => hFc q h) hFc (fun u t H locs ht hvm hw hB hz1 hk1 hS => ?_)
    refine ex_11_8 hB (fun x_5527 x_5528 x_5529 x_5530 x_5531 x_5532 x_5533 x_5534 x_5535 f_5536 f_5537 b_x_5528 b_x_5531 b_x_5534 e_x_5527_0 e_x_5527_1 e_x_5527_2 e_x_5527_3 e_x_5527_4 hB => ?_)
    obtain ⟨hP, hD⟩ := Bw.goA (ws' := [(oc7 oM iM_thrown rM_tape iM_taped iM_size x_5527 x_5528 x_5529 x_5530 x_5531 x_5532 x_5533 iM_trouble rM_letters x_5534 iM_hasCourt rM_r rM_fresh rM_told rM_read rM_st rM_undone rM_kept iM_undos iM_images rM_fresher x_5535 iM_scale iM_night rM_heardRow rM_cutRow iM_breaths iM_cutMany iM_allBreaths rM_trial rM_words iM_fewestBreaths iM_orderMany iM_orderSum iM_leastOrder rM_often iM_setMany iM_someOf iM_allOf iM_allWeight iM_enoughWeight iM_worthSum iM_firstRest iM_leastDrawn), (arI rM_tape kM_tape 900 fM_tape), (arI rM_letters kM_letters 8 f_5536), (arI rM_fresh kM_fresh 287 fM_fresh), (arI rM_read kM_read 90 fM_read), (arI rM_fresher kM_fresher 8 f_5537)]) hB rfl ht hFc rfl
    clear hz1 hk1 hvm ht hB
    have hG := hG.trans (un11_eq e_x_5527_4)
    clear r_T
    refine lv_aload_n hx hb dX7_wordLine_12 rfl (lv_at hl 0 rfl) ?_
    obtain ⟨sa_5538, vsa_5538, nsa_5538, fsa_5538, hnsa_5538, hnesa_5538, hfesa_5538, hRsa_5538, hSsa_5538⟩ := hE.2.2.1 (231, "worth", [119, 111, 114, 116, 104]) (by decide)
    have hG := hG.trans (lt_eq hnesa_5538)
    have hG := hG.trans (lt_eq hfesa_5538)
    refine va_ldcS hx hb hown hRsa_5538 dX7_wordLine_13 ?_
    refine lv_iconst (v := 0) hx hb dX7_wordLine_15 (by decide) ?_
    refine lv_bipush (v := 99) hx hb dX7_wordLine_16 (by decide) ?_
    have hMs := ml_of hD [true, true, true, false, false, false] (wc := [(oc7 oM iM_thrown rM_tape iM_taped iM_size x_5527 x_5528 x_5529 x_5530 x_5531 x_5532 x_5533 iM_trouble rM_letters x_5534 iM_hasCourt rM_r rM_fresh rM_told rM_read rM_st rM_undone rM_kept iM_undos iM_images rM_fresher x_5535 iM_scale iM_night rM_heardRow rM_cutRow iM_breaths iM_cutMany iM_allBreaths rM_trial rM_words iM_fewestBreaths iM_orderMany iM_orderSum iM_leastOrder rM_often iM_setMany iM_someOf iM_allOf iM_allWeight iM_enoughWeight iM_worthSum iM_firstRest iM_leastDrawn), (arI rM_tape kM_tape 900 fM_tape), (arI rM_letters kM_letters 8 f_5536)]) rfl
    have hFc := va_freeM hD hS hA _ hMs
    refine va_calli (va_runV (As := [.ref sa_5538, .int 0, .int 99]) (rest := []) ⟨hx, hb, hml, hown, hts⟩ (tX7_after l dC dI _ oM iM_thrown rM_tape fM_tape kM_tape iM_taped iM_size x_5527 x_5528 x_5529 x_5530 x_5531 x_5532 x_5533 iM_trouble rM_letters f_5536 kM_letters x_5534 iM_hasCourt rM_r rM_fresh rM_told rM_read rM_st rM_undone rM_kept iM_undos iM_images rM_fresher x_5535 iM_scale iM_night rM_heardRow rM_cutRow iM_breaths iM_cutMany iM_allBreaths rM_trial rM_words iM_fewestBreaths iM_orderMany iM_orderSum iM_leastOrder rM_often iM_setMany iM_someOf iM_allOf iM_allWeight iM_enoughWeight iM_worthSum iM_firstRest iM_leastDrawn sa_5538 0 99 vsa_5538 nsa_5538 fsa_5538 b_iM_taped b_iM_size b_x_5528 b_x_5531 b_x_5534 b_iM_hasCourt b_iM_undos b_iM_images b_iM_scale b_iM_breaths b_iM_cutMany e_x_5527_1 (Nat.le_trans (Nat.le_of_eq hnesa_5538) (by decide)) (om_b0b40937 kc_0 kc_99)) (cwV 3 hts (wd_V wd_434 wd_435 wd_436 wd_5 (wd_c wd_437)) rfl rfl rfl dv_yX7_after_3 ⟨Nat.le_of_ble_eq_true rfl, Nat.le_of_ble_eq_true rfl⟩) ⟨Pq.fb, recvX7 hK hP (q0 := 0) rfl, fun U hU hW => Pq.to (hP.ms _ hMs) (hD.ms _ hMs) (hK.ms [true, true, false, false, false] rfl) hSsa_5538 hE hS hFc hU hW⟩ rfl rfl hl.1 rfl (lv_room (Nat.le_of_ble_eq_true rfl)) dX7_wordLine_18 ⟨Nat.le_of_ble_eq_true rfl, Nat.le_of_ble_eq_true rfl⟩) hS (fun q _ h => hFc q h) hFc (fun r u t H locs ht hvm hw hB hz1 hk1 hS => ?_)
    have hru9 := hw.2
    have hw := hw.1
    refine ex_9_8 hB (fun x_5539 x_5540 x_5541 x_5542 x_5543 x_5544 x_5545 x_5546 f_5547 b_x_5540 b_x_5543 b_x_5546 e_x_5539_0 e_x_5539_1 e_x_5539_2 e_x_5539_3 e_x_5539_4 hB => ?_)
    obtain ⟨hP, hD⟩ := Bw.goN (ws' := [(oc7 oM iM_thrown rM_tape iM_taped iM_size x_5539 x_5540 x_5541 x_5542 x_5543 x_5544 x_5545 iM_trouble rM_letters x_5546 iM_hasCourt rM_r rM_fresh rM_told rM_read rM_st rM_undone rM_kept iM_undos iM_images rM_fresher x_5535 iM_scale iM_night rM_heardRow rM_cutRow iM_breaths iM_cutMany iM_allBreaths rM_trial rM_words iM_fewestBreaths iM_orderMany iM_orderSum iM_leastOrder rM_often iM_setMany iM_someOf iM_allOf iM_allWeight iM_enoughWeight iM_worthSum iM_firstRest iM_leastDrawn), (arI rM_tape kM_tape 900 fM_tape), (arI rM_letters kM_letters 8 f_5547), (arI rM_fresh kM_fresh 287 fM_fresh), (arI rM_read kM_read 90 fM_read), (arI rM_fresher kM_fresher 8 f_5537)]) hB rfl ht hP hD _ hMs hk1 hFc rfl
    clear hz1 hk1 hvm ht hB hMs
    rw [← hru9] at e_x_5539_4
    obtain ⟨x_5548, rfl⟩ : ∃ z, z = r := ⟨_, rfl⟩
    have hG := hG.trans (un10_eq e_x_5539_4)
    have lx_5548 := hw.2
    have kl_0 := kc_0
    have kl_99 := kc_99
    clear e_x_5527_1
    clear e_x_5527_3
    refine lv_istore_n (lv' := [(1, .int x_5548), (0, .ref oM)]) hx hb dX7_wordLine_21 rfl hl (by decide) rfl (fun ls hl => ?_)
    refine lv_aload_n hx hb dX7_wordLine_22 rfl (lv_at hl 1 rfl) ?_
    refine va_get (D := (dC, dI)) (ci := 7) (v := .int x_5546) (C := RX7) (T := TX7) (N := 48) hx hb hts inX7 hown hK hP 0 rfl rfl 13 (by decide) (hts _ wd_380) (fun _ h9 => h9) rfl dX7_wordLine_23 ?_
    refine lv_if_eq (tgt := 30) hx hb dX7_wordLine_26 (by decide) (fun c_5549 => ?_) (fun c_5549 => ?_)
    · skip
      have hG := hG.trans (if_pos c_5549)
      have gc_5549 := ti_eq c_5549 rfl kc_0
      refine lv_aload_n hx hb dX7_wordLine_30 rfl (lv_at hl 1 rfl) ?_
      refine va_get (D := (dC, dI)) (ci := 7) (v := .ref rM_read) (C := RX7) (T := TX7) (N := 48) hx hb hts inX7 hown hK hP 0 rfl rfl 18 (by decide) (hts _ wd_158) (fun _ h9 => h9) rfl dX7_wordLine_31 ?_
      refine lv_bipush (v := 72) hx hb dX7_wordLine_34 (by decide) ?_
      refine lv_aload_n hx hb dX7_wordLine_36 rfl (lv_at hl 1 rfl) ?_
      refine va_get (D := (dC, dI)) (ci := 7) (v := .ref rM_fresh) (C := RX7) (T := TX7) (N := 48) hx hb hts inX7 hown hK hP 0 rfl rfl 16 (by decide) (hts _ wd_156) (fun _ h9 => h9) rfl dX7_wordLine_37 ?_
      refine lv_iconst (v := 1) hx hb dX7_wordLine_40 (by decide) ?_
      refine va_iald hx hb hK hP 3 2 rfl rfl (by unfold vp_in; decide) dX7_wordLine_41 ?_
      refine lv_topi (fun x_5550 ex_5550 => ?_)
      have hG := hG.trans (lt_eq ex_5550)
      have cx_5550 : (fM_fresh 1).toInt = x_5550.toInt := congrArg Int32.toInt (show fM_fresh 1 = x_5550 from ex_5550.symm)
      refine lv_iadd hx hb dX7_wordLine_42 ?_
      refine lv_topi (fun x_5551 ex_5551 => ?_)
      have hG := hG.trans (lt_eq ex_5551)
      have vx_5551 : x_5551.toInt = x_5550.toInt + 72 := om_2d0716db (ti_add ex_5551 kc_72 rfl (om_40b9b7fe pl_fM_fresh.2.2.2.2.1.1 pl_fM_fresh.2.2.2.2.1.2 cx_5550) (om_8e01d6bb pl_fM_fresh.2.1 pl_fM_fresh.2.2.1.2 pl_fM_fresh.2.2.2.2.2.1.2 cx_5550))
      refine lv_iload_n hx hb dX7_wordLine_43 rfl (lv_at hl 0 rfl) ?_
      refine va_iast hx hb hK hP hD hS 4 3 rfl rfl (ti_in vx_5551 (om_625b1eca pl_fM_fresh.2.2.2.2.1.1 pl_fM_fresh.2.2.2.2.1.2 cx_5550) (om_73529aab pl_fM_fresh.2.1 pl_fM_fresh.2.2.2.2.2.1.2 h_5526 cx_5550)) dX7_wordLine_44 (fun H locs hP hD hS => ?_)
      obtain ⟨f_5552, ef_5552⟩ : ∃ g : Nat → Int32, g = upd fM_read x_5551.toNatClampNeg x_5548 := ⟨_, rfl⟩
      rw [← ef_5552] at hP hD
      have hG := hG.trans (lt_eq ef_5552)
      obtain ⟨hP, hD⟩ := wl2 (ws' := [(oc7 oM iM_thrown rM_tape iM_taped iM_size x_5539 x_5540 x_5541 x_5542 x_5543 x_5544 x_5545 iM_trouble rM_letters x_5546 iM_hasCourt rM_r rM_fresh rM_told rM_read rM_st rM_undone rM_kept iM_undos iM_images rM_fresher x_5535 iM_scale iM_night rM_heardRow rM_cutRow iM_breaths iM_cutMany iM_allBreaths rM_trial rM_words iM_fewestBreaths iM_orderMany iM_orderSum iM_leastOrder rM_often iM_setMany iM_someOf iM_allOf iM_allWeight iM_enoughWeight iM_worthSum iM_firstRest iM_leastDrawn), (arI rM_tape kM_tape 900 fM_tape), (arI rM_letters kM_letters 8 f_5547), (arI rM_fresh kM_fresh 287 fM_fresh), (arI rM_read kM_read 90 f_5552), (arI rM_fresher kM_fresher 8 f_5537)]) hP hD rfl
      have pk_f_5552 : POk fM_fresh f_5552 := POk.wor r_P ef_5552 (by have q9 := ti_cl (x := x_5551) vx_5551 (om_625b1eca pl_fM_fresh.2.2.2.2.1.1 pl_fM_fresh.2.2.2.2.1.2 cx_5550); omega) (by omega) (by omega)
      refine lv_aload_n hx hb dX7_wordLine_45 rfl (lv_at hl 1 rfl) ?_
      refine lv_iconst (v := 0) hx hb dX7_wordLine_46 (by decide) ?_
      have hMs := ml_of hD [true, false, false, true, false, true] (wc := [(oc7 oM iM_thrown rM_tape iM_taped iM_size x_5539 x_5540 x_5541 x_5542 x_5543 x_5544 x_5545 iM_trouble rM_letters x_5546 iM_hasCourt rM_r rM_fresh rM_told rM_read rM_st rM_undone rM_kept iM_undos iM_images rM_fresher x_5535 iM_scale iM_night rM_heardRow rM_cutRow iM_breaths iM_cutMany iM_allBreaths rM_trial rM_words iM_fewestBreaths iM_orderMany iM_orderSum iM_leastOrder rM_often iM_setMany iM_someOf iM_allOf iM_allWeight iM_enoughWeight iM_worthSum iM_firstRest iM_leastDrawn), (arI rM_fresh kM_fresh 287 fM_fresh), (arI rM_fresher kM_fresher 8 f_5537)]) rfl
      have hFc := va_freeM hD hS hA _ hMs
      refine va_callv (va_runV (As := [.int 0]) (rest := []) ⟨hx, hb, hml, hown, hts⟩ (tX7_lay l dC dI _ oM iM_thrown rM_tape iM_taped iM_size x_5539 x_5540 x_5541 x_5542 x_5543 x_5544 x_5545 iM_trouble rM_letters x_5546 iM_hasCourt rM_r rM_fresh fM_fresh kM_fresh rM_told rM_read rM_st rM_undone rM_kept iM_undos iM_images rM_fresher f_5537 kM_fresher x_5535 iM_scale iM_night rM_heardRow rM_cutRow iM_breaths iM_cutMany iM_allBreaths rM_trial rM_words iM_fewestBreaths iM_orderMany iM_orderSum iM_leastOrder rM_often iM_setMany iM_someOf iM_allOf iM_allWeight iM_enoughWeight iM_worthSum iM_firstRest iM_leastDrawn 0 b_iM_taped b_iM_size b_x_5540 b_x_5543 b_x_5546 b_iM_hasCourt b_iM_undos b_iM_images b_iM_scale b_iM_breaths b_iM_cutMany e_x_5539_1 (om_02e9bb08 gc_5549) ⟨(om_18f2890d pl_fM_fresh.2.2.2.2.1.1 pl_fM_fresh.2.2.2.2.1.2), (om_24843d57 pl_fM_fresh.2.1 pl_fM_fresh.2.2.2.2.2.1.2 h_5526)⟩) (cwV 1 hts (wd_V wd_478 wd_479 wd_480 wd_5 (wd_c wd_481)) rfl rfl rfl dv_yX7_lay_1 ⟨Nat.le_of_ble_eq_true rfl, Nat.le_of_ble_eq_true rfl⟩) ⟨Pw.fb, recvX7 hK hP (q0 := 0) rfl, fun U hU hW => Pw.to (hP.ms _ hMs) (hD.ms _ hMs) (hK.ms [false, false, true, false, true] rfl) hE hS hFc hU hW⟩ rfl rfl hl.1 rfl (lv_room (Nat.le_of_ble_eq_true rfl)) dX7_wordLine_47 ⟨Nat.le_of_ble_eq_true rfl, Nat.le_of_ble_eq_true rfl⟩) hS (fun q _ h => hFc q h) hFc (fun u t H locs ht hvm hw hB hz1 hk1 hS => ?_)
      refine ex_1_2 hB (fun f_5553 e_f_5553_0 e_f_5553_1 hB => ?_)
      obtain ⟨hP, hD⟩ := Bw.goN (ws' := [(oc7 oM iM_thrown rM_tape iM_taped iM_size x_5539 x_5540 x_5541 x_5542 x_5543 x_5544 x_5545 iM_trouble rM_letters x_5546 iM_hasCourt rM_r rM_fresh rM_told rM_read rM_st rM_undone rM_kept iM_undos iM_images rM_fresher x_5535 iM_scale iM_night rM_heardRow rM_cutRow iM_breaths iM_cutMany iM_allBreaths rM_trial rM_words iM_fewestBreaths iM_orderMany iM_orderSum iM_leastOrder rM_often iM_setMany iM_someOf iM_allOf iM_allWeight iM_enoughWeight iM_worthSum iM_firstRest iM_leastDrawn), (arI rM_tape kM_tape 900 fM_tape), (arI rM_letters kM_letters 8 f_5547), (arI rM_fresh kM_fresh 287 f_5553), (arI rM_read kM_read 90 f_5552), (arI rM_fresher kM_fresher 8 f_5537)]) hB rfl ht hP hD _ hMs hk1 hFc rfl
      clear hz1 hk1 hvm ht hB hMs
      have o2_f_5553 : (f_5553 2).toInt = (fM_fresh 2).toInt := by rw [(e_f_5553_0).2.2.1 2 (by decide) (by decide) (Nat.ne_of_lt (Nat.lt_of_lt_of_le (by decide) (Nat.le_add_right 9 _)))]
      have o7_f_5553 : (f_5553 7).toInt = (fM_fresh 7).toInt := by rw [(e_f_5553_0).2.2.1 7 (by decide) (by decide) (Nat.ne_of_lt (Nat.lt_of_lt_of_le (by decide) (Nat.le_add_right 9 _)))]
      have o8_f_5553 : (f_5553 8).toInt = (fM_fresh 8).toInt := by rw [(e_f_5553_0).2.2.1 8 (by decide) (by decide) (Nat.ne_of_lt (Nat.lt_of_lt_of_le (by decide) (Nat.le_add_right 9 _)))]
      have hG := hG.trans (lt_eq e_f_5553_1.symm)
      refine lv_aload_n hx hb dX7_wordLine_50 rfl (lv_at hl 1 rfl) ?_
      refine va_get (D := (dC, dI)) (ci := 7) (v := .ref rM_fresh) (C := RX7) (T := TX7) (N := 48) hx hb hts inX7 hown hK hP 0 rfl rfl 16 (by decide) (hts _ wd_156) (fun _ h9 => h9) rfl dX7_wordLine_51 ?_
      refine lv_iconst (v := 2) hx hb dX7_wordLine_54 (by decide) ?_
      refine lv_dup2_11 hx hb dX7_wordLine_55 rfl rfl ?_
      refine va_iald hx hb hK hP 3 2 rfl rfl (by unfold vp_in; decide) dX7_wordLine_56 ?_
      refine lv_topi (fun x_5554 ex_5554 => ?_)
      have hG := hG.trans (lt_eq ex_5554)
      have cx_5554 : (f_5553 2).toInt = x_5554.toInt := congrArg Int32.toInt (show f_5553 2 = x_5554 from ex_5554.symm)
      refine lv_iconst (v := 1) hx hb dX7_wordLine_57 (by decide) ?_
      refine lv_iadd hx hb dX7_wordLine_58 ?_
      refine lv_topi (fun x_5555 ex_5555 => ?_)
      have hG := hG.trans (lt_eq ex_5555)
      have vx_5555 : x_5555.toInt = x_5554.toInt + 1 := ti_add ex_5555 rfl kc_1 (om_70e2a07e pl_fM_fresh.2.2.1.1 o2_f_5553 cx_5554) (om_faed9c11 pl_fM_fresh.2.2.1.2 o2_f_5553 cx_5554)
      refine va_iast hx hb hK hP hD hS 3 2 rfl rfl (by unfold vp_in; decide) dX7_wordLine_59 (fun H locs hP hD hS => ?_)
      obtain ⟨f_5556, ef_5556⟩ : ∃ g : Nat → Int32, g = upd f_5553 (2 : Int32).toNatClampNeg x_5555 := ⟨_, rfl⟩
      rw [← ef_5556] at hP hD
      have hG := hG.trans (lt_eq ef_5556)
      obtain ⟨hP, hD⟩ := wl2 (ws' := [(oc7 oM iM_thrown rM_tape iM_taped iM_size x_5539 x_5540 x_5541 x_5542 x_5543 x_5544 x_5545 iM_trouble rM_letters x_5546 iM_hasCourt rM_r rM_fresh rM_told rM_read rM_st rM_undone rM_kept iM_undos iM_images rM_fresher x_5535 iM_scale iM_night rM_heardRow rM_cutRow iM_breaths iM_cutMany iM_allBreaths rM_trial rM_words iM_fewestBreaths iM_orderMany iM_orderSum iM_leastOrder rM_often iM_setMany iM_someOf iM_allOf iM_allWeight iM_enoughWeight iM_worthSum iM_firstRest iM_leastDrawn), (arI rM_tape kM_tape 900 fM_tape), (arI rM_letters kM_letters 8 f_5547), (arI rM_fresh kM_fresh 287 f_5556), (arI rM_read kM_read 90 f_5552), (arI rM_fresher kM_fresher 8 f_5537)]) hP hD rfl
      have pk_f_5556 : POk f_5556 f_5552 := POk.word pk_f_5552 e_f_5553_0 kc_0 ef_5556 rfl (by have q := vx_5555; omega) (by omega)
      have pl_f_5556 := pk_f_5556.lins
      exact wq_v hx hb hr 0 trivial (fun t ht hW => ⟨x_5539, x_5540, x_5541, x_5542, x_5543, x_5544, x_5545, x_5546, x_5535, f_5547, f_5556, f_5552, f_5537, b_x_5540, b_x_5543, b_x_5546, (om_9348f5ae e_x_5527_0 e_x_5539_0), e_x_5539_1, (om_1fc3dec6 gc_5525 b_x_5546.1), (fun h9 => (om_7ed234da e_x_5527_0 (e_x_5539_3 ⟨(om_02e9bb08 gc_5549), h9.2⟩))), pk_f_5556, hG, Bw.to hP hD hK ht hW⟩) hS dX7_wordLine_60 hlocks
    · skip
      have hG := hG.trans (if_neg c_5549)
      have gc_5549 := ti_ne c_5549 rfl kc_0
      replace gc_5549 : (-1) * x_5546.toInt + 1 ≤ 0 := om_e3003f79 gc_5549 b_x_5546.1
      exact wq_v hx hb hr 0 trivial (fun t ht hW => ⟨x_5539, x_5540, x_5541, x_5542, x_5543, x_5544, x_5545, x_5546, x_5535, f_5547, fM_fresh, fM_read, f_5537, b_x_5540, b_x_5543, b_x_5546, (om_9348f5ae e_x_5527_0 e_x_5539_0), e_x_5539_1, (om_1fc3dec6 gc_5525 b_x_5546.1), (fun h9 => False.elim (om_a5fe015d gc_5549 h9.1)), r_P, hG, Bw.to hP hD hK ht hW⟩) hS dX7_wordLine_29 hlocks
  · skip
    have hG := hG.trans (if_neg c_5525)
    have gc_5525 := ti_ne c_5525 rfl kc_0
    replace gc_5525 : (-1) * iM_failed.toInt + 1 ≤ 0 := om_e3003f79 gc_5525 b_iM_failed.1
    clear hwl
    exact wq_v hx hb hr 0 trivial (fun t ht hW => ⟨iM_at, iM_end, iM_token, iM_whole, iM_nameSize, iM_fault, iM_place, iM_failed, iM_fresherSize, fM_letters, fM_fresh, fM_read, fM_fresher, ⟨b_iM_end.1, b_iM_end.2⟩, ⟨b_iM_nameSize.1, b_iM_nameSize.2⟩, ⟨b_iM_failed.1, b_iM_failed.2⟩, om_1cb5f934, r_T, om_1cb5f934, (fun h9 => False.elim (om_a5fe015d gc_5525 h9.1)), r_P, hG, Bw.to hP hD hK ht hW⟩) hS dX7_wordLine_7 hlocks
set_option maxHeartbeats 4000000 in
set_option maxRecDepth 100000 in
theorem tX7_throneLine (l : Launch) (dC : Nat → ClassId) (dI : Nat → Nat → Nat) (sz : Nat) (oM : Nat) (iM_thrown : Int32) (rM_tape : Nat) (fM_tape : Nat → Int32) (kM_tape : ClassId) (iM_taped : Int32) (iM_size : Int32) (iM_at : Int32) (iM_end : Int32) (iM_token : Int32) (iM_whole : Int32) (iM_nameSize : Int32) (iM_fault : Int32) (iM_place : Int32) (iM_trouble : Int32) (rM_letters : Nat) (fM_letters : Nat → Int32) (kM_letters : ClassId) (iM_failed : Int32) (iM_hasCourt : Int32) (rM_r : Nat) (rM_fresh : Nat) (fM_fresh : Nat → Int32) (kM_fresh : ClassId) (rM_told : Nat) (rM_read : Nat) (fM_read : Nat → Int32) (kM_read : ClassId) (rM_st : Nat) (rM_undone : Nat) (rM_kept : Nat) (iM_undos : Int32) (iM_images : Int32) (rM_fresher : Nat) (iM_fresherSize : Int32) (iM_scale : Int32) (iM_night : Int32) (rM_heardRow : Nat) (rM_cutRow : Nat) (iM_breaths : Int32) (iM_cutMany : Int32) (iM_allBreaths : Int32) (rM_trial : Nat) (rM_words : Nat) (iM_fewestBreaths : Int32) (iM_orderMany : Int32) (iM_orderSum : Int32) (iM_leastOrder : Int32) (rM_often : Nat) (iM_setMany : Int32) (iM_someOf : Int32) (iM_allOf : Int32) (iM_allWeight : Int64) (iM_enoughWeight : Int64) (iM_worthSum : Int64) (iM_firstRest : Int32) (iM_leastDrawn : Int32) (b_iM_taped : 0 ≤ iM_taped.toInt ∧ iM_taped.toInt ≤ 900) (b_iM_size : 0 ≤ iM_size.toInt ∧ iM_size.toInt ≤ 900) (b_iM_end : 0 ≤ iM_end.toInt ∧ iM_end.toInt ≤ 900) (b_iM_nameSize : 0 ≤ iM_nameSize.toInt ∧ iM_nameSize.toInt ≤ 900) (b_iM_failed : 0 ≤ iM_failed.toInt ∧ iM_failed.toInt ≤ 1) (b_iM_hasCourt : 0 ≤ iM_hasCourt.toInt ∧ iM_hasCourt.toInt ≤ 1) (b_iM_undos : 0 ≤ iM_undos.toInt ∧ iM_undos.toInt ≤ 16) (b_iM_images : 0 ≤ iM_images.toInt ∧ iM_images.toInt ≤ 3) (b_iM_scale : 1 ≤ iM_scale.toInt ∧ iM_scale.toInt ≤ 1296) (b_iM_breaths : 0 ≤ iM_breaths.toInt ∧ iM_breaths.toInt ≤ 399) (b_iM_cutMany : 0 ≤ iM_cutMany.toInt ∧ iM_cutMany.toInt ≤ 399) (r_T : ImpP (iM_token.toInt = 2) (iM_nameSize.toInt ≤ 8)) (r_P : POk fM_fresh fM_read)  : Met l yX7_throneLine (Cond.code yX7_throneLine cX7_throneLine 2 none :: wG) ({ frames := 7, cells := 0, slots := 0, locals := 175 }) (va_Pc [.ref oM] (Pw dC dI sz [(oc7 oM iM_thrown rM_tape iM_taped iM_size iM_at iM_end iM_token iM_whole iM_nameSize iM_fault iM_place iM_trouble rM_letters iM_failed iM_hasCourt rM_r rM_fresh rM_told rM_read rM_st rM_undone rM_kept iM_undos iM_images rM_fresher iM_fresherSize iM_scale iM_night rM_heardRow rM_cutRow iM_breaths iM_cutMany iM_allBreaths rM_trial rM_words iM_fewestBreaths iM_orderMany iM_orderSum iM_leastOrder rM_often iM_setMany iM_someOf iM_allOf iM_allWeight iM_enoughWeight iM_worthSum iM_firstRest iM_leastDrawn), (arI rM_tape kM_tape 900 fM_tape), (arI rM_letters kM_letters 8 fM_letters), (arI rM_fresh kM_fresh 287 fM_fresh), (arI rM_read kM_read 90 fM_read)] [(kM_tape, .int), (kM_letters, .int), (kM_fresh, .int), (kM_read, .int)])) (va_Qv (fun (_ : Nat) => True) (fun (_ : Nat) (t : State) => ∃ (niM_at : Int32) (niM_end : Int32) (niM_token : Int32) (niM_whole : Int32) (niM_nameSize : Int32) (niM_fault : Int32) (niM_place : Int32) (niM_failed : Int32) (nfM_letters : Nat → Int32) (nfM_fresh : Nat → Int32), (0 ≤ niM_end.toInt ∧ niM_end.toInt ≤ 900) ∧ (0 ≤ niM_nameSize.toInt ∧ niM_nameSize.toInt ≤ 900) ∧ (0 ≤ niM_failed.toInt ∧ niM_failed.toInt ≤ 1) ∧ (iM_end.toInt ≤ niM_end.toInt) ∧ (ImpP (niM_token.toInt = 2) (niM_nameSize.toInt ≤ 8)) ∧ (iM_failed.toInt ≤ niM_failed.toInt) ∧ (ImpP (niM_failed.toInt ≤ 0 ∧ niM_token.toInt = 59 ) (iM_end.toInt + 1 ≤ niM_end.toInt)) ∧ (POk nfM_fresh fM_read) ∧ (PX7_throneLine fM_tape iM_size iM_at iM_end iM_token iM_whole iM_nameSize iM_fault iM_place fM_letters iM_failed fM_fresh = (niM_at, niM_end, niM_token, niM_whole, niM_nameSize, niM_fault, niM_place, niM_failed, nfM_letters, nfM_fresh)) ∧ Bw dC dI (va_A [(oc7 oM iM_thrown rM_tape iM_taped iM_size iM_at iM_end iM_token iM_whole iM_nameSize iM_fault iM_place iM_trouble rM_letters iM_failed iM_hasCourt rM_r rM_fresh rM_told rM_read rM_st rM_undone rM_kept iM_undos iM_images rM_fresher iM_fresherSize iM_scale iM_night rM_heardRow rM_cutRow iM_breaths iM_cutMany iM_allBreaths rM_trial rM_words iM_fewestBreaths iM_orderMany iM_orderSum iM_leastOrder rM_often iM_setMany iM_someOf iM_allOf iM_allWeight iM_enoughWeight iM_worthSum iM_firstRest iM_leastDrawn), (arI rM_tape kM_tape 900 fM_tape), (arI rM_letters kM_letters 8 fM_letters), (arI rM_fresh kM_fresh 287 fM_fresh), (arI rM_read kM_read 90 fM_read)] sz) [(oc7 oM iM_thrown rM_tape iM_taped iM_size niM_at niM_end niM_token niM_whole niM_nameSize niM_fault niM_place iM_trouble rM_letters niM_failed iM_hasCourt rM_r rM_fresh rM_told rM_read rM_st rM_undone rM_kept iM_undos iM_images rM_fresher iM_fresherSize iM_scale iM_night rM_heardRow rM_cutRow iM_breaths iM_cutMany iM_allBreaths rM_trial rM_words iM_fewestBreaths iM_orderMany iM_orderSum iM_leastOrder rM_often iM_setMany iM_someOf iM_allOf iM_allWeight iM_enoughWeight iM_worthSum iM_firstRest iM_leastDrawn), (arI rM_tape kM_tape 900 fM_tape), (arI rM_letters kM_letters 8 nfM_letters), (arI rM_fresh kM_fresh 287 nfM_fresh), (arI rM_read kM_read 90 fM_read)] [(kM_tape, .int), (kM_letters, .int), (kM_fresh, .int), (kM_read, .int)] t) (va_A [(oc7 oM iM_thrown rM_tape iM_taped iM_size iM_at iM_end iM_token iM_whole iM_nameSize iM_fault iM_place iM_trouble rM_letters iM_failed iM_hasCourt rM_r rM_fresh rM_told rM_read rM_st rM_undone rM_kept iM_undos iM_images rM_fresher iM_fresherSize iM_scale iM_night rM_heardRow rM_cutRow iM_breaths iM_cutMany iM_allBreaths rM_trial rM_words iM_fewestBreaths iM_orderMany iM_orderSum iM_leastOrder rM_often iM_setMany iM_someOf iM_allOf iM_allWeight iM_enoughWeight iM_worthSum iM_firstRest iM_leastDrawn), (arI rM_tape kM_tape 900 fM_tape), (arI rM_letters kM_letters 8 fM_letters), (arI rM_fresh kM_fresh 287 fM_fresh), (arI rM_read kM_read 90 fM_read)] sz)) 0 0 (va_A [(oc7 oM iM_thrown rM_tape iM_taped iM_size iM_at iM_end iM_token iM_whole iM_nameSize iM_fault iM_place iM_trouble rM_letters iM_failed iM_hasCourt rM_r rM_fresh rM_told rM_read rM_st rM_undone rM_kept iM_undos iM_images rM_fresher iM_fresherSize iM_scale iM_night rM_heardRow rM_cutRow iM_breaths iM_cutMany iM_allBreaths rM_trial rM_words iM_fewestBreaths iM_orderMany iM_orderSum iM_leastOrder rM_often iM_setMany iM_someOf iM_allOf iM_allWeight iM_enoughWeight iM_worthSum iM_firstRest iM_leastDrawn), (arI rM_tape kM_tape 900 fM_tape), (arI rM_letters kM_letters 8 fM_letters), (arI rM_fresh kM_fresh 287 fM_fresh), (arI rM_read kM_read 90 fM_read)] sz) := by
  refine Met.ofW (cc := cX7_throneLine) (maxL := 2) (ret := none) pnX7 rfl ?_
  intro p e s m args below meth c s₁ B hml hv
  obtain ⟨rfl, hsz, hP, hK, hD0, hE⟩ := hv
  have hx := B.exec
  have hb := B.bytes
  have hr := B.returns
  have hts : ∀ w ∈ wG, w.before ([.ref oM] : List Value).toArray s = true := fun w h => atoms_spec (ws := Cond.code yX7_throneLine cX7_throneLine 2 none :: wG) B.pre w (List.mem_cons_of_mem _ h)
  have hown : s.vm.findClass RX7 = some m.cls := own_of B.named rfl
  have hlocks := B.notSynchronized
  subst hsz
  have hD := hD0.self (sz := s.heap.size)
  generalize hAe : va_A [(oc7 oM iM_thrown rM_tape iM_taped iM_size iM_at iM_end iM_token iM_whole iM_nameSize iM_fault iM_place iM_trouble rM_letters iM_failed iM_hasCourt rM_r rM_fresh rM_told rM_read rM_st rM_undone rM_kept iM_undos iM_images rM_fresher iM_fresherSize iM_scale iM_night rM_heardRow rM_cutRow iM_breaths iM_cutMany iM_allBreaths rM_trial rM_words iM_fewestBreaths iM_orderMany iM_orderSum iM_leastOrder rM_often iM_setMany iM_someOf iM_allOf iM_allWeight iM_enoughWeight iM_worthSum iM_firstRest iM_leastDrawn), (arI rM_tape kM_tape 900 fM_tape), (arI rM_letters kM_letters 8 fM_letters), (arI rM_fresh kM_fresh 287 fM_fresh), (arI rM_read kM_read 90 fM_read)] s.heap.size = A at hD hE ⊢
  have hA : ∀ q : Nat, s.heap.size ≤ q → A q := fun q h => by rw [← hAe]; exact Or.inr h
  have hS : va_S A s.heap s.heap [] := va_S.rf
  have hl := lv_entry ([.ref oM]) (n := 2) (Nat.le_of_ble_eq_true rfl)
  rw [lg_entry_eq]
  generalize (lg_sl ([.ref oM]) ++ List.replicate (2 - (lg_sl ([.ref oM])).length) Slot.unset).toArray = ls at hl ⊢
  have hl : lv_has ls 2 [(0, .ref oM)] := hl
  have hG := PX7_throneLine_eq fM_tape iM_size iM_at iM_end iM_token iM_whole iM_nameSize iM_fault iM_place fM_letters iM_failed fM_fresh
  have pl_fM_fresh := r_P.lins
  refine lv_aload_n hx hb dX7_throneLine_0 rfl (lv_at hl 0 rfl) ?_
  refine va_get (D := (dC, dI)) (ci := 7) (v := .ref rM_fresh) (C := RX7) (T := TX7) (N := 48) hx hb hts inX7 hown hK hP 0 rfl rfl 16 (by decide) (hts _ wd_156) (fun _ h9 => h9) rfl dX7_throneLine_1 ?_
  refine lv_bipush (v := 6) hx hb dX7_throneLine_4 (by decide) ?_
  refine va_iald hx hb hK hP 3 2 rfl rfl (by unfold vp_in; decide) dX7_throneLine_6 ?_
  refine lv_topi (fun x_5610 ex_5610 => ?_)
  have hG := hG.trans (lt_eq ex_5610)
  have cx_5610 : (fM_fresh 6).toInt = x_5610.toInt := congrArg Int32.toInt (show fM_fresh 6 = x_5610 from ex_5610.symm)
  refine lv_if_lt (tgt := 19) hx hb dX7_throneLine_7 (by decide) (fun c_5611 => ?_) (fun c_5611 => ?_)
  · skip
    have hG := hG.trans (if_pos c_5611)
    have gc_5611 := ti_lt c_5611 rfl kc_0
    refine lv_aload_n hx hb dX7_throneLine_19 rfl (lv_at hl 0 rfl) ?_
    obtain ⟨sa_5612, vsa_5612, nsa_5612, fsa_5612, hnsa_5612, hnesa_5612, hfesa_5612, hRsa_5612, hSsa_5612⟩ := hE.2.2.1 (144, "throne", [116, 104, 114, 111, 110, 101]) (by decide)
    have hG := hG.trans (lt_eq hnesa_5612)
    have hG := hG.trans (lt_eq hfesa_5612)
    refine va_ldcS hx hb hown hRsa_5612 dX7_throneLine_20 ?_
    refine lv_iconst (v := 1) hx hb dX7_throneLine_22 (by decide) ?_
    have hFc := va_freeI hD hS hA
    refine va_calli (va_runV (As := [.ref sa_5612, .int 1]) (rest := []) ⟨hx, hb, hml, hown, hts⟩ (tX7_begins l dC dI _ oM iM_thrown rM_tape fM_tape kM_tape iM_taped iM_size iM_at iM_end iM_token iM_whole iM_nameSize iM_fault iM_place iM_trouble rM_letters fM_letters kM_letters iM_failed iM_hasCourt rM_r rM_fresh fM_fresh kM_fresh rM_told rM_read fM_read kM_read rM_st rM_undone rM_kept iM_undos iM_images rM_fresher iM_fresherSize iM_scale iM_night rM_heardRow rM_cutRow iM_breaths iM_cutMany iM_allBreaths rM_trial rM_words iM_fewestBreaths iM_orderMany iM_orderSum iM_leastOrder rM_often iM_setMany iM_someOf iM_allOf iM_allWeight iM_enoughWeight iM_worthSum iM_firstRest iM_leastDrawn sa_5612 1 vsa_5612 nsa_5612 fsa_5612 b_iM_taped b_iM_size b_iM_end b_iM_nameSize b_iM_failed b_iM_hasCourt b_iM_undos b_iM_images b_iM_scale b_iM_breaths b_iM_cutMany r_T r_P (Nat.le_trans (Nat.le_of_eq hnesa_5612) (by decide)) ⟨(om_1b364b1c kc_1), (om_02032f93 kc_1)⟩) (cwV 2 hts (wd_V wd_450 wd_451 wd_452 wd_5 (wd_c wd_453)) rfl rfl rfl dv_yX7_begins_2 ⟨Nat.le_of_ble_eq_true rfl, Nat.le_of_ble_eq_true rfl⟩) ⟨Pq.fb, recvX7 hK hP (q0 := 0) rfl, fun U hU hW => Pq.to hP hD hK hSsa_5612 hE hS hFc hU hW⟩ rfl rfl hl.1 rfl (lv_room (Nat.le_of_ble_eq_true rfl)) dX7_throneLine_23 ⟨Nat.le_of_ble_eq_true rfl, Nat.le_of_ble_eq_true rfl⟩) hS (fun q _ h => hFc q h) hFc (fun r u t H locs ht hvm hw hB hz1 hk1 hS => ?_)
    have hru9 := hw.2
    have hw := hw.1
    refine ex_9_9 hB (fun x_5613 x_5614 x_5615 x_5616 x_5617 x_5618 x_5619 x_5620 f_5621 b_x_5614 b_x_5617 b_x_5620 e_x_5613_0 e_x_5613_1 e_x_5613_2 e_x_5613_3 e_x_5613_4 e_x_5613_5 hB => ?_)
    obtain ⟨hP, hD⟩ := Bw.goA (ws' := [(oc7 oM iM_thrown rM_tape iM_taped iM_size x_5613 x_5614 x_5615 x_5616 x_5617 x_5618 x_5619 iM_trouble rM_letters x_5620 iM_hasCourt rM_r rM_fresh rM_told rM_read rM_st rM_undone rM_kept iM_undos iM_images rM_fresher iM_fresherSize iM_scale iM_night rM_heardRow rM_cutRow iM_breaths iM_cutMany iM_allBreaths rM_trial rM_words iM_fewestBreaths iM_orderMany iM_orderSum iM_leastOrder rM_often iM_setMany iM_someOf iM_allOf iM_allWeight iM_enoughWeight iM_worthSum iM_firstRest iM_leastDrawn), (arI rM_tape kM_tape 900 fM_tape), (arI rM_letters kM_letters 8 f_5621), (arI rM_fresh kM_fresh 287 fM_fresh), (arI rM_read kM_read 90 fM_read)]) hB rfl ht hFc rfl
    clear hz1 hk1 hvm ht hB
    rw [← hru9] at e_x_5613_5
    obtain ⟨x_5622, rfl⟩ : ∃ z, z = r := ⟨_, rfl⟩
    have hG := hG.trans (un10_eq e_x_5613_5)
    have bx_5622 := hw.1
    have dx_5622 := bz_tb bx_5622
    have lx_5622 := hw.2
    clear r_T
    refine lv_pop hx hb dX7_throneLine_26 rfl ?_
    refine lv_aload_n hx hb dX7_throneLine_27 rfl (lv_at hl 0 rfl) ?_
    have hMs := ml_of hD [true, false, true, true, true] (wc := [(oc7 oM iM_thrown rM_tape iM_taped iM_size x_5613 x_5614 x_5615 x_5616 x_5617 x_5618 x_5619 iM_trouble rM_letters x_5620 iM_hasCourt rM_r rM_fresh rM_told rM_read rM_st rM_undone rM_kept iM_undos iM_images rM_fresher iM_fresherSize iM_scale iM_night rM_heardRow rM_cutRow iM_breaths iM_cutMany iM_allBreaths rM_trial rM_words iM_fewestBreaths iM_orderMany iM_orderSum iM_leastOrder rM_often iM_setMany iM_someOf iM_allOf iM_allWeight iM_enoughWeight iM_worthSum iM_firstRest iM_leastDrawn), (arI rM_letters kM_letters 8 f_5621), (arI rM_fresh kM_fresh 287 fM_fresh), (arI rM_read kM_read 90 fM_read)]) rfl
    have hFc := va_freeM hD hS hA _ hMs
    refine va_calli (va_runV (As := []) (rest := []) ⟨hx, hb, hml, hown, hts⟩ (tX7_nodeHere l dC dI _ oM iM_thrown rM_tape iM_taped iM_size x_5613 x_5614 x_5615 x_5616 x_5617 x_5618 x_5619 iM_trouble rM_letters f_5621 kM_letters x_5620 iM_hasCourt rM_r rM_fresh fM_fresh kM_fresh rM_told rM_read fM_read kM_read rM_st rM_undone rM_kept iM_undos iM_images rM_fresher iM_fresherSize iM_scale iM_night rM_heardRow rM_cutRow iM_breaths iM_cutMany iM_allBreaths rM_trial rM_words iM_fewestBreaths iM_orderMany iM_orderSum iM_leastOrder rM_often iM_setMany iM_someOf iM_allOf iM_allWeight iM_enoughWeight iM_worthSum iM_firstRest iM_leastDrawn b_iM_taped b_iM_size b_x_5614 b_x_5617 b_x_5620 b_iM_hasCourt b_iM_undos b_iM_images b_iM_scale b_iM_breaths b_iM_cutMany e_x_5613_1 r_P) (cwV 0 hts (wd_V wd_486 wd_487 wd_488 wd_5 (wd_c wd_489)) rfl rfl rfl dv_yX7_nodeHere_0 ⟨Nat.le_of_ble_eq_true rfl, Nat.le_of_ble_eq_true rfl⟩) ⟨Pw.fb, recvX7 hK hP (q0 := 0) rfl, fun U hU hW => Pw.to (hP.ms _ hMs) (hD.ms _ hMs) (hK.ms [false, true, true, true] rfl) hE hS hFc hU hW⟩ rfl rfl hl.1 rfl (lv_room (Nat.le_of_ble_eq_true rfl)) dX7_throneLine_28 ⟨Nat.le_of_ble_eq_true rfl, Nat.le_of_ble_eq_true rfl⟩) hS (fun q _ h => hFc q h) hFc (fun r u t H locs ht hvm hw hB hz1 hk1 hS => ?_)
    have hru9 := hw.2
    have hw := hw.1
    refine ex_3_4 hB (fun x_5623 x_5624 x_5625 b_x_5625 e_x_5623_0 e_x_5623_1 e_x_5623_2 hB => ?_)
    obtain ⟨hP, hD⟩ := Bw.goN (ws' := [(oc7 oM iM_thrown rM_tape iM_taped iM_size x_5613 x_5614 x_5615 x_5616 x_5617 x_5623 x_5624 iM_trouble rM_letters x_5625 iM_hasCourt rM_r rM_fresh rM_told rM_read rM_st rM_undone rM_kept iM_undos iM_images rM_fresher iM_fresherSize iM_scale iM_night rM_heardRow rM_cutRow iM_breaths iM_cutMany iM_allBreaths rM_trial rM_words iM_fewestBreaths iM_orderMany iM_orderSum iM_leastOrder rM_often iM_setMany iM_someOf iM_allOf iM_allWeight iM_enoughWeight iM_worthSum iM_firstRest iM_leastDrawn), (arI rM_tape kM_tape 900 fM_tape), (arI rM_letters kM_letters 8 f_5621), (arI rM_fresh kM_fresh 287 fM_fresh), (arI rM_read kM_read 90 fM_read)]) hB rfl ht hP hD _ hMs hk1 hFc rfl
    clear hz1 hk1 hvm ht hB hMs
    rw [← hru9] at e_x_5623_2
    obtain ⟨x_5626, rfl⟩ : ∃ z, z = r := ⟨_, rfl⟩
    have hG := hG.trans (un4_eq e_x_5623_2)
    have lx_5626 := hw.2
    have ux_5626 := hw.2
    refine lv_istore_n (lv' := [(1, .int x_5626), (0, .ref oM)]) hx hb dX7_throneLine_31 rfl hl (by decide) rfl (fun ls hl => ?_)
    refine lv_aload_n hx hb dX7_throneLine_32 rfl (lv_at hl 1 rfl) ?_
    have hMs := ml_of hD [true, true, true, false, false] (wc := [(oc7 oM iM_thrown rM_tape iM_taped iM_size x_5613 x_5614 x_5615 x_5616 x_5617 x_5623 x_5624 iM_trouble rM_letters x_5625 iM_hasCourt rM_r rM_fresh rM_told rM_read rM_st rM_undone rM_kept iM_undos iM_images rM_fresher iM_fresherSize iM_scale iM_night rM_heardRow rM_cutRow iM_breaths iM_cutMany iM_allBreaths rM_trial rM_words iM_fewestBreaths iM_orderMany iM_orderSum iM_leastOrder rM_often iM_setMany iM_someOf iM_allOf iM_allWeight iM_enoughWeight iM_worthSum iM_firstRest iM_leastDrawn), (arI rM_tape kM_tape 900 fM_tape), (arI rM_letters kM_letters 8 f_5621)]) rfl
    have hFc := va_freeM hD hS hA _ hMs
    refine va_callv (va_runV (As := []) (rest := []) ⟨hx, hb, hml, hown, hts⟩ (tX7_pass l dC dI _ oM iM_thrown rM_tape fM_tape kM_tape iM_taped iM_size x_5613 x_5614 x_5615 x_5616 x_5617 x_5623 x_5624 iM_trouble rM_letters f_5621 kM_letters x_5625 iM_hasCourt rM_r rM_fresh rM_told rM_read rM_st rM_undone rM_kept iM_undos iM_images rM_fresher iM_fresherSize iM_scale iM_night rM_heardRow rM_cutRow iM_breaths iM_cutMany iM_allBreaths rM_trial rM_words iM_fewestBreaths iM_orderMany iM_orderSum iM_leastOrder rM_often iM_setMany iM_someOf iM_allOf iM_allWeight iM_enoughWeight iM_worthSum iM_firstRest iM_leastDrawn b_iM_taped b_iM_size b_x_5614 b_x_5617 b_x_5625 b_iM_hasCourt b_iM_undos b_iM_images b_iM_scale b_iM_breaths b_iM_cutMany e_x_5613_1) (cwV 0 hts (wd_V wd_454 wd_455 wd_456 wd_5 (wd_c wd_457)) rfl rfl rfl dv_yX7_pass_0 ⟨Nat.le_of_ble_eq_true rfl, Nat.le_of_ble_eq_true rfl⟩) ⟨Pw.fb, recvX7 hK hP (q0 := 0) rfl, fun U hU hW => Pw.to (hP.ms _ hMs) (hD.ms _ hMs) (hK.ms [true, true, false, false] rfl) hE hS hFc hU hW⟩ rfl rfl hl.1 rfl (lv_room (Nat.le_of_ble_eq_true rfl)) dX7_throneLine_33 ⟨Nat.le_of_ble_eq_true rfl, Nat.le_of_ble_eq_true rfl⟩) hS (fun q _ h => hFc q h) hFc (fun u t H locs ht hvm hw hB hz1 hk1 hS => ?_)
    refine ex_6_6 hB (fun x_5627 x_5628 x_5629 x_5630 x_5631 f_5632 b_x_5628 b_x_5631 e_x_5627_0 e_x_5627_1 e_x_5627_2 e_x_5627_3 hB => ?_)
    obtain ⟨hP, hD⟩ := Bw.goN (ws' := [(oc7 oM iM_thrown rM_tape iM_taped iM_size x_5627 x_5628 x_5629 x_5630 x_5631 x_5623 x_5624 iM_trouble rM_letters x_5625 iM_hasCourt rM_r rM_fresh rM_told rM_read rM_st rM_undone rM_kept iM_undos iM_images rM_fresher iM_fresherSize iM_scale iM_night rM_heardRow rM_cutRow iM_breaths iM_cutMany iM_allBreaths rM_trial rM_words iM_fewestBreaths iM_orderMany iM_orderSum iM_leastOrder rM_often iM_setMany iM_someOf iM_allOf iM_allWeight iM_enoughWeight iM_worthSum iM_firstRest iM_leastDrawn), (arI rM_tape kM_tape 900 fM_tape), (arI rM_letters kM_letters 8 f_5632), (arI rM_fresh kM_fresh 287 fM_fresh), (arI rM_read kM_read 90 fM_read)]) hB rfl ht hP hD _ hMs hk1 hFc rfl
    clear hz1 hk1 hvm ht hB hMs
    have hG := hG.trans (un6_eq e_x_5627_3)
    clear e_x_5613_1
    clear e_x_5613_4
    refine lv_aload_n hx hb dX7_throneLine_36 rfl (lv_at hl 1 rfl) ?_
    refine va_get (D := (dC, dI)) (ci := 7) (v := .int x_5625) (C := RX7) (T := TX7) (N := 48) hx hb hts inX7 hown hK hP 0 rfl rfl 13 (by decide) (hts _ wd_380) (fun _ h9 => h9) rfl dX7_throneLine_37 ?_
    refine lv_if_ne (tgt := 51) hx hb dX7_throneLine_40 (by decide) (fun c_5633 => ?_) (fun c_5633 => ?_)
    · skip
      have hG := hG.trans (if_neg c_5633)
      have gc_5633 := ti_ne c_5633 rfl kc_0
      replace gc_5633 : (-1) * x_5625.toInt + 1 ≤ 0 := om_e3003f79 gc_5633 b_x_5625.1
      clear e_x_5623_1
      exact wq_v hx hb hr 0 trivial (fun t ht hW => ⟨x_5627, x_5628, x_5629, x_5630, x_5631, x_5623, x_5624, x_5625, f_5632, fM_fresh, b_x_5628, b_x_5631, b_x_5625, (om_9348f5ae e_x_5613_0 e_x_5627_0), e_x_5627_1, (om_9348f5ae e_x_5613_2 e_x_5623_0), (fun h9 => False.elim (om_a5fe015d gc_5633 h9.1)), r_P, hG, Bw.to hP hD hK ht hW⟩) hS dX7_throneLine_51 hlocks
    · skip
      have hG := hG.trans (if_pos c_5633)
      have gc_5633 := ti_eq c_5633 rfl kc_0
      have h_5634 : 1 ≤ (fM_fresh 1).toInt := e_x_5623_1 (om_02e9bb08 gc_5633)
      clear e_x_5623_1
      have h_5635 : x_5626.toInt < (fM_fresh 1).toInt := lx_5626.2.1 h_5634
      refine lv_aload_n hx hb dX7_throneLine_43 rfl (lv_at hl 1 rfl) ?_
      refine va_get (D := (dC, dI)) (ci := 7) (v := .ref rM_fresh) (C := RX7) (T := TX7) (N := 48) hx hb hts inX7 hown hK hP 0 rfl rfl 16 (by decide) (hts _ wd_156) (fun _ h9 => h9) rfl dX7_throneLine_44 ?_
      refine lv_bipush (v := 6) hx hb dX7_throneLine_47 (by decide) ?_
      refine lv_iload_n hx hb dX7_throneLine_49 rfl (lv_at hl 0 rfl) ?_
      refine va_iast hx hb hK hP hD hS 3 2 rfl rfl (by unfold vp_in; decide) dX7_throneLine_50 (fun H locs hP hD hS => ?_)
      obtain ⟨f_5636, ef_5636⟩ : ∃ g : Nat → Int32, g = upd fM_fresh (6 : Int32).toNatClampNeg x_5626 := ⟨_, rfl⟩
      rw [← ef_5636] at hP hD
      have hG := hG.trans (lt_eq ef_5636)
      obtain ⟨hP, hD⟩ := wl2 (ws' := [(oc7 oM iM_thrown rM_tape iM_taped iM_size x_5627 x_5628 x_5629 x_5630 x_5631 x_5623 x_5624 iM_trouble rM_letters x_5625 iM_hasCourt rM_r rM_fresh rM_told rM_read rM_st rM_undone rM_kept iM_undos iM_images rM_fresher iM_fresherSize iM_scale iM_night rM_heardRow rM_cutRow iM_breaths iM_cutMany iM_allBreaths rM_trial rM_words iM_fewestBreaths iM_orderMany iM_orderSum iM_leastOrder rM_often iM_setMany iM_someOf iM_allOf iM_allWeight iM_enoughWeight iM_worthSum iM_firstRest iM_leastDrawn), (arI rM_tape kM_tape 900 fM_tape), (arI rM_letters kM_letters 8 f_5632), (arI rM_fresh kM_fresh 287 f_5636), (arI rM_read kM_read 90 fM_read)]) hP hD rfl
      have pk_f_5636 : POk f_5636 fM_read := POk.put r_P ef_5636 (Or.inr (Or.inr (Or.inr (Or.inl (by have q9 : ((6 : Int32).toNatClampNeg : Nat) = 6 := rfl; omega)))))
      have pl_f_5636 := pk_f_5636.lins
      exact wq_v hx hb hr 0 trivial (fun t ht hW => ⟨x_5627, x_5628, x_5629, x_5630, x_5631, x_5623, x_5624, x_5625, f_5632, f_5636, b_x_5628, b_x_5631, b_x_5625, (om_9348f5ae e_x_5613_0 e_x_5627_0), e_x_5627_1, (om_9348f5ae e_x_5613_2 e_x_5623_0), (fun h9 => (om_7ed234da e_x_5613_0 (e_x_5627_2 ⟨(om_02e9bb08 gc_5633), h9.2⟩))), pk_f_5636, hG, Bw.to hP hD hK ht hW⟩) hS dX7_throneLine_51 hlocks
  · skip
    have hG := hG.trans (if_neg c_5611)
    have gc_5611 := ti_nlt c_5611 rfl kc_0
    refine lv_aload_n hx hb dX7_throneLine_10 rfl (lv_at hl 0 rfl) ?_
    refine lv_iconst (v := 3) hx hb dX7_throneLine_11 (by decide) ?_
    refine lv_aload_n hx hb dX7_throneLine_12 rfl (lv_at hl 0 rfl) ?_
    refine va_get (D := (dC, dI)) (ci := 7) (v := .int iM_at) (C := RX7) (T := TX7) (N := 48) hx hb hts inX7 hown hK hP 0 rfl rfl 4 (by decide) (hts _ wd_384) (fun _ h9 => h9) rfl dX7_throneLine_13 ?_
    have hMs := ml_of hD [true, false, false, false, false] (wc := [(oc7 oM iM_thrown rM_tape iM_taped iM_size iM_at iM_end iM_token iM_whole iM_nameSize iM_fault iM_place iM_trouble rM_letters iM_failed iM_hasCourt rM_r rM_fresh rM_told rM_read rM_st rM_undone rM_kept iM_undos iM_images rM_fresher iM_fresherSize iM_scale iM_night rM_heardRow rM_cutRow iM_breaths iM_cutMany iM_allBreaths rM_trial rM_words iM_fewestBreaths iM_orderMany iM_orderSum iM_leastOrder rM_often iM_setMany iM_someOf iM_allOf iM_allWeight iM_enoughWeight iM_worthSum iM_firstRest iM_leastDrawn)]) rfl
    have hFc := va_freeM hD hS hA _ hMs
    refine va_callv (va_runV (As := [.int 3, .int iM_at]) (rest := []) ⟨hx, hb, hml, hown, hts⟩ (tX7_wrong l dC dI _ oM iM_thrown rM_tape iM_taped iM_size iM_at iM_end iM_token iM_whole iM_nameSize iM_fault iM_place iM_trouble rM_letters iM_failed iM_hasCourt rM_r rM_fresh rM_told rM_read rM_st rM_undone rM_kept iM_undos iM_images rM_fresher iM_fresherSize iM_scale iM_night rM_heardRow rM_cutRow iM_breaths iM_cutMany iM_allBreaths rM_trial rM_words iM_fewestBreaths iM_orderMany iM_orderSum iM_leastOrder rM_often iM_setMany iM_someOf iM_allOf iM_allWeight iM_enoughWeight iM_worthSum iM_firstRest iM_leastDrawn 3 iM_at b_iM_taped b_iM_size b_iM_end b_iM_nameSize b_iM_failed b_iM_hasCourt b_iM_undos b_iM_images b_iM_scale b_iM_breaths b_iM_cutMany r_T) (cwV 2 hts (wd_V wd_430 wd_431 wd_432 wd_5 (wd_c wd_433)) rfl rfl rfl dv_yX7_wrong_2 ⟨Nat.le_of_ble_eq_true rfl, Nat.le_of_ble_eq_true rfl⟩) ⟨Pw.fb, recvX7 hK hP (q0 := 0) rfl, fun U hU hW => Pw.to (hP.ms _ hMs) (hD.ms _ hMs) (hK.ms [false, false, false, false] rfl) hE hS hFc hU hW⟩ rfl rfl hl.1 rfl (lv_room (Nat.le_of_ble_eq_true rfl)) dX7_throneLine_16 ⟨Nat.le_of_ble_eq_true rfl, Nat.le_of_ble_eq_true rfl⟩) hS (fun q _ h => hFc q h) hFc (fun u t H locs ht hvm hw hB hz1 hk1 hS => ?_)
    refine ex_3_3 hB (fun x_5637 x_5638 x_5639 b_x_5639 e_x_5637_0 e_x_5637_1 hB => ?_)
    obtain ⟨hP, hD⟩ := Bw.goN (ws' := [(oc7 oM iM_thrown rM_tape iM_taped iM_size iM_at iM_end iM_token iM_whole iM_nameSize x_5637 x_5638 iM_trouble rM_letters x_5639 iM_hasCourt rM_r rM_fresh rM_told rM_read rM_st rM_undone rM_kept iM_undos iM_images rM_fresher iM_fresherSize iM_scale iM_night rM_heardRow rM_cutRow iM_breaths iM_cutMany iM_allBreaths rM_trial rM_words iM_fewestBreaths iM_orderMany iM_orderSum iM_leastOrder rM_often iM_setMany iM_someOf iM_allOf iM_allWeight iM_enoughWeight iM_worthSum iM_firstRest iM_leastDrawn), (arI rM_tape kM_tape 900 fM_tape), (arI rM_letters kM_letters 8 fM_letters), (arI rM_fresh kM_fresh 287 fM_fresh), (arI rM_read kM_read 90 fM_read)]) hB rfl ht hP hD _ hMs hk1 hFc rfl
    clear hz1 hk1 hvm ht hB hMs
    have hG := hG.trans (un3_eq e_x_5637_1)
    refine lv_aload_n hx hb dX7_throneLine_19 rfl (lv_at hl 0 rfl) ?_
    obtain ⟨sa_5640, vsa_5640, nsa_5640, fsa_5640, hnsa_5640, hnesa_5640, hfesa_5640, hRsa_5640, hSsa_5640⟩ := hE.2.2.1 (144, "throne", [116, 104, 114, 111, 110, 101]) (by decide)
    have hG := hG.trans (lt_eq hnesa_5640)
    have hG := hG.trans (lt_eq hfesa_5640)
    refine va_ldcS hx hb hown hRsa_5640 dX7_throneLine_20 ?_
    refine lv_iconst (v := 1) hx hb dX7_throneLine_22 (by decide) ?_
    have hFc := va_freeI hD hS hA
    refine va_calli (va_runV (As := [.ref sa_5640, .int 1]) (rest := []) ⟨hx, hb, hml, hown, hts⟩ (tX7_begins l dC dI _ oM iM_thrown rM_tape fM_tape kM_tape iM_taped iM_size iM_at iM_end iM_token iM_whole iM_nameSize x_5637 x_5638 iM_trouble rM_letters fM_letters kM_letters x_5639 iM_hasCourt rM_r rM_fresh fM_fresh kM_fresh rM_told rM_read fM_read kM_read rM_st rM_undone rM_kept iM_undos iM_images rM_fresher iM_fresherSize iM_scale iM_night rM_heardRow rM_cutRow iM_breaths iM_cutMany iM_allBreaths rM_trial rM_words iM_fewestBreaths iM_orderMany iM_orderSum iM_leastOrder rM_often iM_setMany iM_someOf iM_allOf iM_allWeight iM_enoughWeight iM_worthSum iM_firstRest iM_leastDrawn sa_5640 1 vsa_5640 nsa_5640 fsa_5640 b_iM_taped b_iM_size b_iM_end b_iM_nameSize b_x_5639 b_iM_hasCourt b_iM_undos b_iM_images b_iM_scale b_iM_breaths b_iM_cutMany r_T r_P (Nat.le_trans (Nat.le_of_eq hnesa_5640) (by decide)) ⟨(om_1b364b1c kc_1), (om_02032f93 kc_1)⟩) (cwV 2 hts (wd_V wd_450 wd_451 wd_452 wd_5 (wd_c wd_453)) rfl rfl rfl dv_yX7_begins_2 ⟨Nat.le_of_ble_eq_true rfl, Nat.le_of_ble_eq_true rfl⟩) ⟨Pq.fb, recvX7 hK hP (q0 := 0) rfl, fun U hU hW => Pq.to hP hD hK hSsa_5640 hE hS hFc hU hW⟩ rfl rfl hl.1 rfl (lv_room (Nat.le_of_ble_eq_true rfl)) dX7_throneLine_23 ⟨Nat.le_of_ble_eq_true rfl, Nat.le_of_ble_eq_true rfl⟩) hS (fun q _ h => hFc q h) hFc (fun r u t H locs ht hvm hw hB hz1 hk1 hS => ?_)
    have hru9 := hw.2
    have hw := hw.1
    refine ex_9_9 hB (fun x_5641 x_5642 x_5643 x_5644 x_5645 x_5646 x_5647 x_5648 f_5649 b_x_5642 b_x_5645 b_x_5648 e_x_5641_0 e_x_5641_1 e_x_5641_2 e_x_5641_3 e_x_5641_4 e_x_5641_5 hB => ?_)
    obtain ⟨hP, hD⟩ := Bw.goA (ws' := [(oc7 oM iM_thrown rM_tape iM_taped iM_size x_5641 x_5642 x_5643 x_5644 x_5645 x_5646 x_5647 iM_trouble rM_letters x_5648 iM_hasCourt rM_r rM_fresh rM_told rM_read rM_st rM_undone rM_kept iM_undos iM_images rM_fresher iM_fresherSize iM_scale iM_night rM_heardRow rM_cutRow iM_breaths iM_cutMany iM_allBreaths rM_trial rM_words iM_fewestBreaths iM_orderMany iM_orderSum iM_leastOrder rM_often iM_setMany iM_someOf iM_allOf iM_allWeight iM_enoughWeight iM_worthSum iM_firstRest iM_leastDrawn), (arI rM_tape kM_tape 900 fM_tape), (arI rM_letters kM_letters 8 f_5649), (arI rM_fresh kM_fresh 287 fM_fresh), (arI rM_read kM_read 90 fM_read)]) hB rfl ht hFc rfl
    clear hz1 hk1 hvm ht hB
    rw [← hru9] at e_x_5641_5
    obtain ⟨x_5650, rfl⟩ : ∃ z, z = r := ⟨_, rfl⟩
    have hG := hG.trans (un10_eq e_x_5641_5)
    have bx_5650 := hw.1
    have dx_5650 := bz_tb bx_5650
    have lx_5650 := hw.2
    clear r_T
    refine lv_pop hx hb dX7_throneLine_26 rfl ?_
    refine lv_aload_n hx hb dX7_throneLine_27 rfl (lv_at hl 0 rfl) ?_
    have hMs := ml_of hD [true, false, true, true, true] (wc := [(oc7 oM iM_thrown rM_tape iM_taped iM_size x_5641 x_5642 x_5643 x_5644 x_5645 x_5646 x_5647 iM_trouble rM_letters x_5648 iM_hasCourt rM_r rM_fresh rM_told rM_read rM_st rM_undone rM_kept iM_undos iM_images rM_fresher iM_fresherSize iM_scale iM_night rM_heardRow rM_cutRow iM_breaths iM_cutMany iM_allBreaths rM_trial rM_words iM_fewestBreaths iM_orderMany iM_orderSum iM_leastOrder rM_often iM_setMany iM_someOf iM_allOf iM_allWeight iM_enoughWeight iM_worthSum iM_firstRest iM_leastDrawn), (arI rM_letters kM_letters 8 f_5649), (arI rM_fresh kM_fresh 287 fM_fresh), (arI rM_read kM_read 90 fM_read)]) rfl
    have hFc := va_freeM hD hS hA _ hMs
    refine va_calli (va_runV (As := []) (rest := []) ⟨hx, hb, hml, hown, hts⟩ (tX7_nodeHere l dC dI _ oM iM_thrown rM_tape iM_taped iM_size x_5641 x_5642 x_5643 x_5644 x_5645 x_5646 x_5647 iM_trouble rM_letters f_5649 kM_letters x_5648 iM_hasCourt rM_r rM_fresh fM_fresh kM_fresh rM_told rM_read fM_read kM_read rM_st rM_undone rM_kept iM_undos iM_images rM_fresher iM_fresherSize iM_scale iM_night rM_heardRow rM_cutRow iM_breaths iM_cutMany iM_allBreaths rM_trial rM_words iM_fewestBreaths iM_orderMany iM_orderSum iM_leastOrder rM_often iM_setMany iM_someOf iM_allOf iM_allWeight iM_enoughWeight iM_worthSum iM_firstRest iM_leastDrawn b_iM_taped b_iM_size b_x_5642 b_x_5645 b_x_5648 b_iM_hasCourt b_iM_undos b_iM_images b_iM_scale b_iM_breaths b_iM_cutMany e_x_5641_1 r_P) (cwV 0 hts (wd_V wd_486 wd_487 wd_488 wd_5 (wd_c wd_489)) rfl rfl rfl dv_yX7_nodeHere_0 ⟨Nat.le_of_ble_eq_true rfl, Nat.le_of_ble_eq_true rfl⟩) ⟨Pw.fb, recvX7 hK hP (q0 := 0) rfl, fun U hU hW => Pw.to (hP.ms _ hMs) (hD.ms _ hMs) (hK.ms [false, true, true, true] rfl) hE hS hFc hU hW⟩ rfl rfl hl.1 rfl (lv_room (Nat.le_of_ble_eq_true rfl)) dX7_throneLine_28 ⟨Nat.le_of_ble_eq_true rfl, Nat.le_of_ble_eq_true rfl⟩) hS (fun q _ h => hFc q h) hFc (fun r u t H locs ht hvm hw hB hz1 hk1 hS => ?_)
    have hru9 := hw.2
    have hw := hw.1
    refine ex_3_4 hB (fun x_5651 x_5652 x_5653 b_x_5653 e_x_5651_0 e_x_5651_1 e_x_5651_2 hB => ?_)
    obtain ⟨hP, hD⟩ := Bw.goN (ws' := [(oc7 oM iM_thrown rM_tape iM_taped iM_size x_5641 x_5642 x_5643 x_5644 x_5645 x_5651 x_5652 iM_trouble rM_letters x_5653 iM_hasCourt rM_r rM_fresh rM_told rM_read rM_st rM_undone rM_kept iM_undos iM_images rM_fresher iM_fresherSize iM_scale iM_night rM_heardRow rM_cutRow iM_breaths iM_cutMany iM_allBreaths rM_trial rM_words iM_fewestBreaths iM_orderMany iM_orderSum iM_leastOrder rM_often iM_setMany iM_someOf iM_allOf iM_allWeight iM_enoughWeight iM_worthSum iM_firstRest iM_leastDrawn), (arI rM_tape kM_tape 900 fM_tape), (arI rM_letters kM_letters 8 f_5649), (arI rM_fresh kM_fresh 287 fM_fresh), (arI rM_read kM_read 90 fM_read)]) hB rfl ht hP hD _ hMs hk1 hFc rfl
    clear hz1 hk1 hvm ht hB hMs
    rw [← hru9] at e_x_5651_2
    obtain ⟨x_5654, rfl⟩ : ∃ z, z = r := ⟨_, rfl⟩
    have hG := hG.trans (un4_eq e_x_5651_2)
    have lx_5654 := hw.2
    have ux_5654 := hw.2
    clear e_x_5651_1
    have h_5655 : x_5654.toInt < (fM_fresh 1).toInt := lx_5654.2.1 (om_60c3b8c8 pl_fM_fresh.2.2.2.2.1.2 cx_5610 gc_5611)
    refine lv_istore_n (lv' := [(1, .int x_5654), (0, .ref oM)]) hx hb dX7_throneLine_31 rfl hl (by decide) rfl (fun ls hl => ?_)
    refine lv_aload_n hx hb dX7_throneLine_32 rfl (lv_at hl 1 rfl) ?_
    have hMs := ml_of hD [true, true, true, false, false] (wc := [(oc7 oM iM_thrown rM_tape iM_taped iM_size x_5641 x_5642 x_5643 x_5644 x_5645 x_5651 x_5652 iM_trouble rM_letters x_5653 iM_hasCourt rM_r rM_fresh rM_told rM_read rM_st rM_undone rM_kept iM_undos iM_images rM_fresher iM_fresherSize iM_scale iM_night rM_heardRow rM_cutRow iM_breaths iM_cutMany iM_allBreaths rM_trial rM_words iM_fewestBreaths iM_orderMany iM_orderSum iM_leastOrder rM_often iM_setMany iM_someOf iM_allOf iM_allWeight iM_enoughWeight iM_worthSum iM_firstRest iM_leastDrawn), (arI rM_tape kM_tape 900 fM_tape), (arI rM_letters kM_letters 8 f_5649)]) rfl
    have hFc := va_freeM hD hS hA _ hMs
    refine va_callv (va_runV (As := []) (rest := []) ⟨hx, hb, hml, hown, hts⟩ (tX7_pass l dC dI _ oM iM_thrown rM_tape fM_tape kM_tape iM_taped iM_size x_5641 x_5642 x_5643 x_5644 x_5645 x_5651 x_5652 iM_trouble rM_letters f_5649 kM_letters x_5653 iM_hasCourt rM_r rM_fresh rM_told rM_read rM_st rM_undone rM_kept iM_undos iM_images rM_fresher iM_fresherSize iM_scale iM_night rM_heardRow rM_cutRow iM_breaths iM_cutMany iM_allBreaths rM_trial rM_words iM_fewestBreaths iM_orderMany iM_orderSum iM_leastOrder rM_often iM_setMany iM_someOf iM_allOf iM_allWeight iM_enoughWeight iM_worthSum iM_firstRest iM_leastDrawn b_iM_taped b_iM_size b_x_5642 b_x_5645 b_x_5653 b_iM_hasCourt b_iM_undos b_iM_images b_iM_scale b_iM_breaths b_iM_cutMany e_x_5641_1) (cwV 0 hts (wd_V wd_454 wd_455 wd_456 wd_5 (wd_c wd_457)) rfl rfl rfl dv_yX7_pass_0 ⟨Nat.le_of_ble_eq_true rfl, Nat.le_of_ble_eq_true rfl⟩) ⟨Pw.fb, recvX7 hK hP (q0 := 0) rfl, fun U hU hW => Pw.to (hP.ms _ hMs) (hD.ms _ hMs) (hK.ms [true, true, false, false] rfl) hE hS hFc hU hW⟩ rfl rfl hl.1 rfl (lv_room (Nat.le_of_ble_eq_true rfl)) dX7_throneLine_33 ⟨Nat.le_of_ble_eq_true rfl, Nat.le_of_ble_eq_true rfl⟩) hS (fun q _ h => hFc q h) hFc (fun u t H locs ht hvm hw hB hz1 hk1 hS => ?_)
    refine ex_6_6 hB (fun x_5656 x_5657 x_5658 x_5659 x_5660 f_5661 b_x_5657 b_x_5660 e_x_5656_0 e_x_5656_1 e_x_5656_2 e_x_5656_3 hB => ?_)
    obtain ⟨hP, hD⟩ := Bw.goN (ws' := [(oc7 oM iM_thrown rM_tape iM_taped iM_size x_5656 x_5657 x_5658 x_5659 x_5660 x_5651 x_5652 iM_trouble rM_letters x_5653 iM_hasCourt rM_r rM_fresh rM_told rM_read rM_st rM_undone rM_kept iM_undos iM_images rM_fresher iM_fresherSize iM_scale iM_night rM_heardRow rM_cutRow iM_breaths iM_cutMany iM_allBreaths rM_trial rM_words iM_fewestBreaths iM_orderMany iM_orderSum iM_leastOrder rM_often iM_setMany iM_someOf iM_allOf iM_allWeight iM_enoughWeight iM_worthSum iM_firstRest iM_leastDrawn), (arI rM_tape kM_tape 900 fM_tape), (arI rM_letters kM_letters 8 f_5661), (arI rM_fresh kM_fresh 287 fM_fresh), (arI rM_read kM_read 90 fM_read)]) hB rfl ht hP hD _ hMs hk1 hFc rfl
    clear hz1 hk1 hvm ht hB hMs
    have hG := hG.trans (un6_eq e_x_5656_3)
    clear e_x_5641_1
    clear e_x_5641_4
    refine lv_aload_n hx hb dX7_throneLine_36 rfl (lv_at hl 1 rfl) ?_
    refine va_get (D := (dC, dI)) (ci := 7) (v := .int x_5653) (C := RX7) (T := TX7) (N := 48) hx hb hts inX7 hown hK hP 0 rfl rfl 13 (by decide) (hts _ wd_380) (fun _ h9 => h9) rfl dX7_throneLine_37 ?_
    refine lv_if_ne (tgt := 51) hx hb dX7_throneLine_40 (by decide) (fun c_5662 => ?_) (fun c_5662 => ?_)
    · skip
      have hG := hG.trans (if_neg c_5662)
      have gc_5662 := ti_ne c_5662 rfl kc_0
      replace gc_5662 : (-1) * x_5653.toInt + 1 ≤ 0 := om_e3003f79 gc_5662 b_x_5653.1
      exact wq_v hx hb hr 0 trivial (fun t ht hW => ⟨x_5656, x_5657, x_5658, x_5659, x_5660, x_5651, x_5652, x_5653, f_5661, fM_fresh, b_x_5657, b_x_5660, b_x_5653, (om_9348f5ae e_x_5641_0 e_x_5656_0), e_x_5656_1, (om_be042b3b b_iM_failed.2 gc_5662), (fun h9 => False.elim (om_a5fe015d gc_5662 h9.1)), r_P, hG, Bw.to hP hD hK ht hW⟩) hS dX7_throneLine_51 hlocks
    · skip
      have hG := hG.trans (if_pos c_5662)
      have gc_5662 := ti_eq c_5662 rfl kc_0
      exact ((om_5c6c3440 e_x_5637_0 e_x_5641_2 e_x_5651_0 gc_5662)).elim
set_option maxHeartbeats 4000000 in
set_option maxRecDepth 100000 in
theorem tX7_saidLine (l : Launch) (dC : Nat → ClassId) (dI : Nat → Nat → Nat) (sz : Nat) (oM : Nat) (iM_thrown : Int32) (rM_tape : Nat) (fM_tape : Nat → Int32) (kM_tape : ClassId) (iM_taped : Int32) (iM_size : Int32) (iM_at : Int32) (iM_end : Int32) (iM_token : Int32) (iM_whole : Int32) (iM_nameSize : Int32) (iM_fault : Int32) (iM_place : Int32) (iM_trouble : Int32) (rM_letters : Nat) (fM_letters : Nat → Int32) (kM_letters : ClassId) (iM_failed : Int32) (iM_hasCourt : Int32) (rM_r : Nat) (rM_fresh : Nat) (fM_fresh : Nat → Int32) (kM_fresh : ClassId) (rM_told : Nat) (rM_read : Nat) (fM_read : Nat → Int32) (kM_read : ClassId) (rM_st : Nat) (rM_undone : Nat) (rM_kept : Nat) (iM_undos : Int32) (iM_images : Int32) (rM_fresher : Nat) (iM_fresherSize : Int32) (iM_scale : Int32) (iM_night : Int32) (rM_heardRow : Nat) (rM_cutRow : Nat) (iM_breaths : Int32) (iM_cutMany : Int32) (iM_allBreaths : Int32) (rM_trial : Nat) (rM_words : Nat) (iM_fewestBreaths : Int32) (iM_orderMany : Int32) (iM_orderSum : Int32) (iM_leastOrder : Int32) (rM_often : Nat) (iM_setMany : Int32) (iM_someOf : Int32) (iM_allOf : Int32) (iM_allWeight : Int64) (iM_enoughWeight : Int64) (iM_worthSum : Int64) (iM_firstRest : Int32) (iM_leastDrawn : Int32) (b_iM_taped : 0 ≤ iM_taped.toInt ∧ iM_taped.toInt ≤ 900) (b_iM_size : 0 ≤ iM_size.toInt ∧ iM_size.toInt ≤ 900) (b_iM_end : 0 ≤ iM_end.toInt ∧ iM_end.toInt ≤ 900) (b_iM_nameSize : 0 ≤ iM_nameSize.toInt ∧ iM_nameSize.toInt ≤ 900) (b_iM_failed : 0 ≤ iM_failed.toInt ∧ iM_failed.toInt ≤ 1) (b_iM_hasCourt : 0 ≤ iM_hasCourt.toInt ∧ iM_hasCourt.toInt ≤ 1) (b_iM_undos : 0 ≤ iM_undos.toInt ∧ iM_undos.toInt ≤ 16) (b_iM_images : 0 ≤ iM_images.toInt ∧ iM_images.toInt ≤ 3) (b_iM_scale : 1 ≤ iM_scale.toInt ∧ iM_scale.toInt ≤ 1296) (b_iM_breaths : 0 ≤ iM_breaths.toInt ∧ iM_breaths.toInt ≤ 399) (b_iM_cutMany : 0 ≤ iM_cutMany.toInt ∧ iM_cutMany.toInt ≤ 399) (r_T : ImpP (iM_token.toInt = 2) (iM_nameSize.toInt ≤ 8)) (r_P : POk fM_fresh fM_read)  : Met l yX7_saidLine (Cond.code yX7_saidLine cX7_saidLine 2 none :: wG) ({ frames := 6, cells := 0, slots := 0, locals := 156 }) (va_Pc [.ref oM] (Pw dC dI sz [(oc7 oM iM_thrown rM_tape iM_taped iM_size iM_at iM_end iM_token iM_whole iM_nameSize iM_fault iM_place iM_trouble rM_letters iM_failed iM_hasCourt rM_r rM_fresh rM_told rM_read rM_st rM_undone rM_kept iM_undos iM_images rM_fresher iM_fresherSize iM_scale iM_night rM_heardRow rM_cutRow iM_breaths iM_cutMany iM_allBreaths rM_trial rM_words iM_fewestBreaths iM_orderMany iM_orderSum iM_leastOrder rM_often iM_setMany iM_someOf iM_allOf iM_allWeight iM_enoughWeight iM_worthSum iM_firstRest iM_leastDrawn), (arI rM_tape kM_tape 900 fM_tape), (arI rM_letters kM_letters 8 fM_letters), (arI rM_fresh kM_fresh 287 fM_fresh), (arI rM_read kM_read 90 fM_read)] [(kM_tape, .int), (kM_letters, .int), (kM_fresh, .int), (kM_read, .int)])) (va_Qv (fun (_ : Nat) => True) (fun (_ : Nat) (t : State) => ∃ (niM_at : Int32) (niM_end : Int32) (niM_token : Int32) (niM_whole : Int32) (niM_nameSize : Int32) (niM_fault : Int32) (niM_place : Int32) (niM_failed : Int32) (nfM_letters : Nat → Int32) (nfM_fresh : Nat → Int32), (0 ≤ niM_end.toInt ∧ niM_end.toInt ≤ 900) ∧ (0 ≤ niM_nameSize.toInt ∧ niM_nameSize.toInt ≤ 900) ∧ (0 ≤ niM_failed.toInt ∧ niM_failed.toInt ≤ 1) ∧ (iM_end.toInt ≤ niM_end.toInt) ∧ (ImpP (niM_token.toInt = 2) (niM_nameSize.toInt ≤ 8)) ∧ (iM_failed.toInt ≤ niM_failed.toInt) ∧ (ImpP (niM_failed.toInt ≤ 0 ∧ niM_token.toInt = 59 ) (iM_end.toInt + 1 ≤ niM_end.toInt)) ∧ (POk nfM_fresh fM_read) ∧ (PX7_saidLine fM_tape iM_size iM_at iM_end iM_token iM_whole iM_nameSize iM_fault iM_place fM_letters iM_failed fM_fresh = (niM_at, niM_end, niM_token, niM_whole, niM_nameSize, niM_fault, niM_place, niM_failed, nfM_letters, nfM_fresh)) ∧ Bw dC dI (va_A [(oc7 oM iM_thrown rM_tape iM_taped iM_size iM_at iM_end iM_token iM_whole iM_nameSize iM_fault iM_place iM_trouble rM_letters iM_failed iM_hasCourt rM_r rM_fresh rM_told rM_read rM_st rM_undone rM_kept iM_undos iM_images rM_fresher iM_fresherSize iM_scale iM_night rM_heardRow rM_cutRow iM_breaths iM_cutMany iM_allBreaths rM_trial rM_words iM_fewestBreaths iM_orderMany iM_orderSum iM_leastOrder rM_often iM_setMany iM_someOf iM_allOf iM_allWeight iM_enoughWeight iM_worthSum iM_firstRest iM_leastDrawn), (arI rM_tape kM_tape 900 fM_tape), (arI rM_letters kM_letters 8 fM_letters), (arI rM_fresh kM_fresh 287 fM_fresh), (arI rM_read kM_read 90 fM_read)] sz) [(oc7 oM iM_thrown rM_tape iM_taped iM_size niM_at niM_end niM_token niM_whole niM_nameSize niM_fault niM_place iM_trouble rM_letters niM_failed iM_hasCourt rM_r rM_fresh rM_told rM_read rM_st rM_undone rM_kept iM_undos iM_images rM_fresher iM_fresherSize iM_scale iM_night rM_heardRow rM_cutRow iM_breaths iM_cutMany iM_allBreaths rM_trial rM_words iM_fewestBreaths iM_orderMany iM_orderSum iM_leastOrder rM_often iM_setMany iM_someOf iM_allOf iM_allWeight iM_enoughWeight iM_worthSum iM_firstRest iM_leastDrawn), (arI rM_tape kM_tape 900 fM_tape), (arI rM_letters kM_letters 8 nfM_letters), (arI rM_fresh kM_fresh 287 nfM_fresh), (arI rM_read kM_read 90 fM_read)] [(kM_tape, .int), (kM_letters, .int), (kM_fresh, .int), (kM_read, .int)] t) (va_A [(oc7 oM iM_thrown rM_tape iM_taped iM_size iM_at iM_end iM_token iM_whole iM_nameSize iM_fault iM_place iM_trouble rM_letters iM_failed iM_hasCourt rM_r rM_fresh rM_told rM_read rM_st rM_undone rM_kept iM_undos iM_images rM_fresher iM_fresherSize iM_scale iM_night rM_heardRow rM_cutRow iM_breaths iM_cutMany iM_allBreaths rM_trial rM_words iM_fewestBreaths iM_orderMany iM_orderSum iM_leastOrder rM_often iM_setMany iM_someOf iM_allOf iM_allWeight iM_enoughWeight iM_worthSum iM_firstRest iM_leastDrawn), (arI rM_tape kM_tape 900 fM_tape), (arI rM_letters kM_letters 8 fM_letters), (arI rM_fresh kM_fresh 287 fM_fresh), (arI rM_read kM_read 90 fM_read)] sz)) 0 0 (va_A [(oc7 oM iM_thrown rM_tape iM_taped iM_size iM_at iM_end iM_token iM_whole iM_nameSize iM_fault iM_place iM_trouble rM_letters iM_failed iM_hasCourt rM_r rM_fresh rM_told rM_read rM_st rM_undone rM_kept iM_undos iM_images rM_fresher iM_fresherSize iM_scale iM_night rM_heardRow rM_cutRow iM_breaths iM_cutMany iM_allBreaths rM_trial rM_words iM_fewestBreaths iM_orderMany iM_orderSum iM_leastOrder rM_often iM_setMany iM_someOf iM_allOf iM_allWeight iM_enoughWeight iM_worthSum iM_firstRest iM_leastDrawn), (arI rM_tape kM_tape 900 fM_tape), (arI rM_letters kM_letters 8 fM_letters), (arI rM_fresh kM_fresh 287 fM_fresh), (arI rM_read kM_read 90 fM_read)] sz) := by
  refine Met.ofW (cc := cX7_saidLine) (maxL := 2) (ret := none) pnX7 rfl ?_
  intro p e s m args below meth c s₁ B hml hv
  obtain ⟨rfl, hsz, hP, hK, hD0, hE⟩ := hv
  have hx := B.exec
  have hb := B.bytes
  have hr := B.returns
  have hts : ∀ w ∈ wG, w.before ([.ref oM] : List Value).toArray s = true := fun w h => atoms_spec (ws := Cond.code yX7_saidLine cX7_saidLine 2 none :: wG) B.pre w (List.mem_cons_of_mem _ h)
  have hown : s.vm.findClass RX7 = some m.cls := own_of B.named rfl
  have hlocks := B.notSynchronized
  subst hsz
  have hD := hD0.self (sz := s.heap.size)
  generalize hAe : va_A [(oc7 oM iM_thrown rM_tape iM_taped iM_size iM_at iM_end iM_token iM_whole iM_nameSize iM_fault iM_place iM_trouble rM_letters iM_failed iM_hasCourt rM_r rM_fresh rM_told rM_read rM_st rM_undone rM_kept iM_undos iM_images rM_fresher iM_fresherSize iM_scale iM_night rM_heardRow rM_cutRow iM_breaths iM_cutMany iM_allBreaths rM_trial rM_words iM_fewestBreaths iM_orderMany iM_orderSum iM_leastOrder rM_often iM_setMany iM_someOf iM_allOf iM_allWeight iM_enoughWeight iM_worthSum iM_firstRest iM_leastDrawn), (arI rM_tape kM_tape 900 fM_tape), (arI rM_letters kM_letters 8 fM_letters), (arI rM_fresh kM_fresh 287 fM_fresh), (arI rM_read kM_read 90 fM_read)] s.heap.size = A at hD hE ⊢
  have hA : ∀ q : Nat, s.heap.size ≤ q → A q := fun q h => by rw [← hAe]; exact Or.inr h
  have hS : va_S A s.heap s.heap [] := va_S.rf
  have hl := lv_entry ([.ref oM]) (n := 2) (Nat.le_of_ble_eq_true rfl)
  rw [lg_entry_eq]
  generalize (lg_sl ([.ref oM]) ++ List.replicate (2 - (lg_sl ([.ref oM])).length) Slot.unset).toArray = ls at hl ⊢
  have hl : lv_has ls 2 [(0, .ref oM)] := hl
  have hG := PX7_saidLine_eq fM_tape iM_size iM_at iM_end iM_token iM_whole iM_nameSize iM_fault iM_place fM_letters iM_failed fM_fresh
  have pl_fM_fresh := r_P.lins
  refine lv_aload_n hx hb dX7_saidLine_0 rfl (lv_at hl 0 rfl) ?_
  refine va_get (D := (dC, dI)) (ci := 7) (v := .ref rM_fresh) (C := RX7) (T := TX7) (N := 48) hx hb hts inX7 hown hK hP 0 rfl rfl 16 (by decide) (hts _ wd_156) (fun _ h9 => h9) rfl dX7_saidLine_1 ?_
  refine lv_iconst (v := 4) hx hb dX7_saidLine_4 (by decide) ?_
  refine va_iald hx hb hK hP 3 2 rfl rfl (by unfold vp_in; decide) dX7_saidLine_5 ?_
  refine lv_topi (fun x_5714 ex_5714 => ?_)
  have hG := hG.trans (lt_eq ex_5714)
  have cx_5714 : (fM_fresh 4).toInt = x_5714.toInt := congrArg Int32.toInt (show fM_fresh 4 = x_5714 from ex_5714.symm)
  refine lv_if_le (tgt := 18) hx hb dX7_saidLine_6 (by decide) (fun c_5715 => ?_) (fun c_5715 => ?_)
  · skip
    have hG := hG.trans (if_pos c_5715)
    have gc_5715 := ti_le c_5715 rfl kc_0
    refine lv_aload_n hx hb dX7_saidLine_18 rfl (lv_at hl 0 rfl) ?_
    obtain ⟨sa_5716, vsa_5716, nsa_5716, fsa_5716, hnsa_5716, hnesa_5716, hfesa_5716, hRsa_5716, hSsa_5716⟩ := hE.2.2.1 (148, "said", [115, 97, 105, 100]) (by decide)
    have hG := hG.trans (lt_eq hnesa_5716)
    have hG := hG.trans (lt_eq hfesa_5716)
    refine va_ldcS hx hb hown hRsa_5716 dX7_saidLine_19 ?_
    refine lv_iconst (v := 1) hx hb dX7_saidLine_21 (by decide) ?_
    have hFc := va_freeI hD hS hA
    refine va_calli (va_runV (As := [.ref sa_5716, .int 1]) (rest := []) ⟨hx, hb, hml, hown, hts⟩ (tX7_begins l dC dI _ oM iM_thrown rM_tape fM_tape kM_tape iM_taped iM_size iM_at iM_end iM_token iM_whole iM_nameSize iM_fault iM_place iM_trouble rM_letters fM_letters kM_letters iM_failed iM_hasCourt rM_r rM_fresh fM_fresh kM_fresh rM_told rM_read fM_read kM_read rM_st rM_undone rM_kept iM_undos iM_images rM_fresher iM_fresherSize iM_scale iM_night rM_heardRow rM_cutRow iM_breaths iM_cutMany iM_allBreaths rM_trial rM_words iM_fewestBreaths iM_orderMany iM_orderSum iM_leastOrder rM_often iM_setMany iM_someOf iM_allOf iM_allWeight iM_enoughWeight iM_worthSum iM_firstRest iM_leastDrawn sa_5716 1 vsa_5716 nsa_5716 fsa_5716 b_iM_taped b_iM_size b_iM_end b_iM_nameSize b_iM_failed b_iM_hasCourt b_iM_undos b_iM_images b_iM_scale b_iM_breaths b_iM_cutMany r_T r_P (Nat.le_trans (Nat.le_of_eq hnesa_5716) (by decide)) ⟨(om_1b364b1c kc_1), (om_02032f93 kc_1)⟩) (cwV 2 hts (wd_V wd_450 wd_451 wd_452 wd_5 (wd_c wd_453)) rfl rfl rfl dv_yX7_begins_2 ⟨Nat.le_of_ble_eq_true rfl, Nat.le_of_ble_eq_true rfl⟩) ⟨Pq.fb, recvX7 hK hP (q0 := 0) rfl, fun U hU hW => Pq.to hP hD hK hSsa_5716 hE hS hFc hU hW⟩ rfl rfl hl.1 rfl (lv_room (Nat.le_of_ble_eq_true rfl)) dX7_saidLine_22 ⟨Nat.le_of_ble_eq_true rfl, Nat.le_of_ble_eq_true rfl⟩) hS (fun q _ h => hFc q h) hFc (fun r u t H locs ht hvm hw hB hz1 hk1 hS => ?_)
    have hru9 := hw.2
    have hw := hw.1
    refine ex_9_9 hB (fun x_5717 x_5718 x_5719 x_5720 x_5721 x_5722 x_5723 x_5724 f_5725 b_x_5718 b_x_5721 b_x_5724 e_x_5717_0 e_x_5717_1 e_x_5717_2 e_x_5717_3 e_x_5717_4 e_x_5717_5 hB => ?_)
    obtain ⟨hP, hD⟩ := Bw.goA (ws' := [(oc7 oM iM_thrown rM_tape iM_taped iM_size x_5717 x_5718 x_5719 x_5720 x_5721 x_5722 x_5723 iM_trouble rM_letters x_5724 iM_hasCourt rM_r rM_fresh rM_told rM_read rM_st rM_undone rM_kept iM_undos iM_images rM_fresher iM_fresherSize iM_scale iM_night rM_heardRow rM_cutRow iM_breaths iM_cutMany iM_allBreaths rM_trial rM_words iM_fewestBreaths iM_orderMany iM_orderSum iM_leastOrder rM_often iM_setMany iM_someOf iM_allOf iM_allWeight iM_enoughWeight iM_worthSum iM_firstRest iM_leastDrawn), (arI rM_tape kM_tape 900 fM_tape), (arI rM_letters kM_letters 8 f_5725), (arI rM_fresh kM_fresh 287 fM_fresh), (arI rM_read kM_read 90 fM_read)]) hB rfl ht hFc rfl
    clear hz1 hk1 hvm ht hB
    rw [← hru9] at e_x_5717_5
    obtain ⟨x_5726, rfl⟩ : ∃ z, z = r := ⟨_, rfl⟩
    have hG := hG.trans (un10_eq e_x_5717_5)
    have bx_5726 := hw.1
    have dx_5726 := bz_tb bx_5726
    have lx_5726 := hw.2
    clear r_T
    refine lv_pop hx hb dX7_saidLine_25 rfl ?_
    refine lv_aload_n hx hb dX7_saidLine_26 rfl (lv_at hl 0 rfl) ?_
    refine lv_iconst (v := 0) hx hb dX7_saidLine_27 (by decide) ?_
    refine lv_bipush (v := 99) hx hb dX7_saidLine_28 (by decide) ?_
    have hMs := ml_of hD [true, true, true, false, false] (wc := [(oc7 oM iM_thrown rM_tape iM_taped iM_size x_5717 x_5718 x_5719 x_5720 x_5721 x_5722 x_5723 iM_trouble rM_letters x_5724 iM_hasCourt rM_r rM_fresh rM_told rM_read rM_st rM_undone rM_kept iM_undos iM_images rM_fresher iM_fresherSize iM_scale iM_night rM_heardRow rM_cutRow iM_breaths iM_cutMany iM_allBreaths rM_trial rM_words iM_fewestBreaths iM_orderMany iM_orderSum iM_leastOrder rM_often iM_setMany iM_someOf iM_allOf iM_allWeight iM_enoughWeight iM_worthSum iM_firstRest iM_leastDrawn), (arI rM_tape kM_tape 900 fM_tape), (arI rM_letters kM_letters 8 f_5725)]) rfl
    have hFc := va_freeM hD hS hA _ hMs
    refine va_calli (va_runV (As := [.int 0, .int 99]) (rest := []) ⟨hx, hb, hml, hown, hts⟩ (tX7_number l dC dI _ oM iM_thrown rM_tape fM_tape kM_tape iM_taped iM_size x_5717 x_5718 x_5719 x_5720 x_5721 x_5722 x_5723 iM_trouble rM_letters f_5725 kM_letters x_5724 iM_hasCourt rM_r rM_fresh rM_told rM_read rM_st rM_undone rM_kept iM_undos iM_images rM_fresher iM_fresherSize iM_scale iM_night rM_heardRow rM_cutRow iM_breaths iM_cutMany iM_allBreaths rM_trial rM_words iM_fewestBreaths iM_orderMany iM_orderSum iM_leastOrder rM_often iM_setMany iM_someOf iM_allOf iM_allWeight iM_enoughWeight iM_worthSum iM_firstRest iM_leastDrawn 0 99 b_iM_taped b_iM_size b_x_5718 b_x_5721 b_x_5724 b_iM_hasCourt b_iM_undos b_iM_images b_iM_scale b_iM_breaths b_iM_cutMany e_x_5717_1 (om_b0b40937 kc_0 kc_99)) (cwV 2 hts (wd_V wd_446 wd_447 wd_448 wd_5 (wd_c wd_449)) rfl rfl rfl dv_yX7_number_2 ⟨Nat.le_of_ble_eq_true rfl, Nat.le_of_ble_eq_true rfl⟩) ⟨Pw.fb, recvX7 hK hP (q0 := 0) rfl, fun U hU hW => Pw.to (hP.ms _ hMs) (hD.ms _ hMs) (hK.ms [true, true, false, false] rfl) hE hS hFc hU hW⟩ rfl rfl hl.1 rfl (lv_room (Nat.le_of_ble_eq_true rfl)) dX7_saidLine_30 ⟨Nat.le_of_ble_eq_true rfl, Nat.le_of_ble_eq_true rfl⟩) hS (fun q _ h => hFc q h) hFc (fun r u t H locs ht hvm hw hB hz1 hk1 hS => ?_)
    have hru9 := hw.2
    have hw := hw.1
    refine ex_9_8 hB (fun x_5727 x_5728 x_5729 x_5730 x_5731 x_5732 x_5733 x_5734 f_5735 b_x_5728 b_x_5731 b_x_5734 e_x_5727_0 e_x_5727_1 e_x_5727_2 e_x_5727_3 e_x_5727_4 hB => ?_)
    obtain ⟨hP, hD⟩ := Bw.goN (ws' := [(oc7 oM iM_thrown rM_tape iM_taped iM_size x_5727 x_5728 x_5729 x_5730 x_5731 x_5732 x_5733 iM_trouble rM_letters x_5734 iM_hasCourt rM_r rM_fresh rM_told rM_read rM_st rM_undone rM_kept iM_undos iM_images rM_fresher iM_fresherSize iM_scale iM_night rM_heardRow rM_cutRow iM_breaths iM_cutMany iM_allBreaths rM_trial rM_words iM_fewestBreaths iM_orderMany iM_orderSum iM_leastOrder rM_often iM_setMany iM_someOf iM_allOf iM_allWeight iM_enoughWeight iM_worthSum iM_firstRest iM_leastDrawn), (arI rM_tape kM_tape 900 fM_tape), (arI rM_letters kM_letters 8 f_5735), (arI rM_fresh kM_fresh 287 fM_fresh), (arI rM_read kM_read 90 fM_read)]) hB rfl ht hP hD _ hMs hk1 hFc rfl
    clear hz1 hk1 hvm ht hB hMs
    rw [← hru9] at e_x_5727_4
    obtain ⟨x_5736, rfl⟩ : ∃ z, z = r := ⟨_, rfl⟩
    have hG := hG.trans (un10_eq e_x_5727_4)
    have lx_5736 := hw.2
    have kl_0 := kc_0
    have kl_99 := kc_99
    clear e_x_5717_1
    clear e_x_5717_4
    refine lv_istore_n (lv' := [(1, .int x_5736), (0, .ref oM)]) hx hb dX7_saidLine_33 rfl hl (by decide) rfl (fun ls hl => ?_)
    refine lv_aload_n hx hb dX7_saidLine_34 rfl (lv_at hl 1 rfl) ?_
    refine va_get (D := (dC, dI)) (ci := 7) (v := .int x_5734) (C := RX7) (T := TX7) (N := 48) hx hb hts inX7 hown hK hP 0 rfl rfl 13 (by decide) (hts _ wd_380) (fun _ h9 => h9) rfl dX7_saidLine_35 ?_
    refine lv_if_ne (tgt := 50) hx hb dX7_saidLine_38 (by decide) (fun c_5737 => ?_) (fun c_5737 => ?_)
    · skip
      have hG := hG.trans (if_neg c_5737)
      have gc_5737 := ti_ne c_5737 rfl kc_0
      replace gc_5737 : (-1) * x_5734.toInt + 1 ≤ 0 := om_e3003f79 gc_5737 b_x_5734.1
      exact wq_v hx hb hr 0 trivial (fun t ht hW => ⟨x_5727, x_5728, x_5729, x_5730, x_5731, x_5732, x_5733, x_5734, f_5735, fM_fresh, b_x_5728, b_x_5731, b_x_5734, (om_9348f5ae e_x_5717_0 e_x_5727_0), e_x_5727_1, (om_9348f5ae e_x_5717_2 e_x_5727_2), (fun h9 => False.elim (om_a5fe015d gc_5737 h9.1)), r_P, hG, Bw.to hP hD hK ht hW⟩) hS dX7_saidLine_50 hlocks
    · skip
      have hG := hG.trans (if_pos c_5737)
      have gc_5737 := ti_eq c_5737 rfl kc_0
      refine lv_aload_n hx hb dX7_saidLine_41 rfl (lv_at hl 1 rfl) ?_
      refine va_get (D := (dC, dI)) (ci := 7) (v := .ref rM_fresh) (C := RX7) (T := TX7) (N := 48) hx hb hts inX7 hown hK hP 0 rfl rfl 16 (by decide) (hts _ wd_156) (fun _ h9 => h9) rfl dX7_saidLine_42 ?_
      refine lv_iconst (v := 4) hx hb dX7_saidLine_45 (by decide) ?_
      refine lv_iload_n hx hb dX7_saidLine_46 rfl (lv_at hl 0 rfl) ?_
      refine lv_iconst (v := 1) hx hb dX7_saidLine_47 (by decide) ?_
      refine lv_iadd hx hb dX7_saidLine_48 ?_
      refine lv_topi (fun x_5738 ex_5738 => ?_)
      have hG := hG.trans (lt_eq ex_5738)
      have vx_5738 : x_5738.toInt = x_5736.toInt + 1 := ti_add ex_5738 rfl kc_1 (om_55679156 lx_5736.1 kc_0) (om_a705d0e8 lx_5736.2 kc_99)
      refine va_iast hx hb hK hP hD hS 3 2 rfl rfl (by unfold vp_in; decide) dX7_saidLine_49 (fun H locs hP hD hS => ?_)
      obtain ⟨f_5739, ef_5739⟩ : ∃ g : Nat → Int32, g = upd fM_fresh (4 : Int32).toNatClampNeg x_5738 := ⟨_, rfl⟩
      rw [← ef_5739] at hP hD
      have hG := hG.trans (lt_eq ef_5739)
      obtain ⟨hP, hD⟩ := wl2 (ws' := [(oc7 oM iM_thrown rM_tape iM_taped iM_size x_5727 x_5728 x_5729 x_5730 x_5731 x_5732 x_5733 iM_trouble rM_letters x_5734 iM_hasCourt rM_r rM_fresh rM_told rM_read rM_st rM_undone rM_kept iM_undos iM_images rM_fresher iM_fresherSize iM_scale iM_night rM_heardRow rM_cutRow iM_breaths iM_cutMany iM_allBreaths rM_trial rM_words iM_fewestBreaths iM_orderMany iM_orderSum iM_leastOrder rM_often iM_setMany iM_someOf iM_allOf iM_allWeight iM_enoughWeight iM_worthSum iM_firstRest iM_leastDrawn), (arI rM_tape kM_tape 900 fM_tape), (arI rM_letters kM_letters 8 f_5735), (arI rM_fresh kM_fresh 287 f_5739), (arI rM_read kM_read 90 fM_read)]) hP hD rfl
      have pk_f_5739 : POk f_5739 fM_read := POk.put r_P ef_5739 (Or.inr (Or.inl (by have q9 : ((4 : Int32).toNatClampNeg : Nat) = 4 := rfl; omega)))
      have pl_f_5739 := pk_f_5739.lins
      exact wq_v hx hb hr 0 trivial (fun t ht hW => ⟨x_5727, x_5728, x_5729, x_5730, x_5731, x_5732, x_5733, x_5734, f_5735, f_5739, b_x_5728, b_x_5731, b_x_5734, (om_9348f5ae e_x_5717_0 e_x_5727_0), e_x_5727_1, (om_9348f5ae e_x_5717_2 e_x_5727_2), (fun h9 => (om_7ed234da e_x_5717_0 (e_x_5727_3 ⟨(om_02e9bb08 gc_5737), h9.2⟩))), pk_f_5739, hG, Bw.to hP hD hK ht hW⟩) hS dX7_saidLine_50 hlocks
  · skip
    have hG := hG.trans (if_neg c_5715)
    have gc_5715 := ti_nle c_5715 rfl kc_0
    refine lv_aload_n hx hb dX7_saidLine_9 rfl (lv_at hl 0 rfl) ?_
    refine lv_iconst (v := 3) hx hb dX7_saidLine_10 (by decide) ?_
    refine lv_aload_n hx hb dX7_saidLine_11 rfl (lv_at hl 0 rfl) ?_
    refine va_get (D := (dC, dI)) (ci := 7) (v := .int iM_at) (C := RX7) (T := TX7) (N := 48) hx hb hts inX7 hown hK hP 0 rfl rfl 4 (by decide) (hts _ wd_384) (fun _ h9 => h9) rfl dX7_saidLine_12 ?_
    have hMs := ml_of hD [true, false, false, false, false] (wc := [(oc7 oM iM_thrown rM_tape iM_taped iM_size iM_at iM_end iM_token iM_whole iM_nameSize iM_fault iM_place iM_trouble rM_letters iM_failed iM_hasCourt rM_r rM_fresh rM_told rM_read rM_st rM_undone rM_kept iM_undos iM_images rM_fresher iM_fresherSize iM_scale iM_night rM_heardRow rM_cutRow iM_breaths iM_cutMany iM_allBreaths rM_trial rM_words iM_fewestBreaths iM_orderMany iM_orderSum iM_leastOrder rM_often iM_setMany iM_someOf iM_allOf iM_allWeight iM_enoughWeight iM_worthSum iM_firstRest iM_leastDrawn)]) rfl
    have hFc := va_freeM hD hS hA _ hMs
    refine va_callv (va_runV (As := [.int 3, .int iM_at]) (rest := []) ⟨hx, hb, hml, hown, hts⟩ (tX7_wrong l dC dI _ oM iM_thrown rM_tape iM_taped iM_size iM_at iM_end iM_token iM_whole iM_nameSize iM_fault iM_place iM_trouble rM_letters iM_failed iM_hasCourt rM_r rM_fresh rM_told rM_read rM_st rM_undone rM_kept iM_undos iM_images rM_fresher iM_fresherSize iM_scale iM_night rM_heardRow rM_cutRow iM_breaths iM_cutMany iM_allBreaths rM_trial rM_words iM_fewestBreaths iM_orderMany iM_orderSum iM_leastOrder rM_often iM_setMany iM_someOf iM_allOf iM_allWeight iM_enoughWeight iM_worthSum iM_firstRest iM_leastDrawn 3 iM_at b_iM_taped b_iM_size b_iM_end b_iM_nameSize b_iM_failed b_iM_hasCourt b_iM_undos b_iM_images b_iM_scale b_iM_breaths b_iM_cutMany r_T) (cwV 2 hts (wd_V wd_430 wd_431 wd_432 wd_5 (wd_c wd_433)) rfl rfl rfl dv_yX7_wrong_2 ⟨Nat.le_of_ble_eq_true rfl, Nat.le_of_ble_eq_true rfl⟩) ⟨Pw.fb, recvX7 hK hP (q0 := 0) rfl, fun U hU hW => Pw.to (hP.ms _ hMs) (hD.ms _ hMs) (hK.ms [false, false, false, false] rfl) hE hS hFc hU hW⟩ rfl rfl hl.1 rfl (lv_room (Nat.le_of_ble_eq_true rfl)) dX7_saidLine_15 ⟨Nat.le_of_ble_eq_true rfl, Nat.le_of_ble_eq_true rfl⟩) hS (fun q _ h => hFc q h) hFc (fun u t H locs ht hvm hw hB hz1 hk1 hS => ?_)
    refine ex_3_3 hB (fun x_5740 x_5741 x_5742 b_x_5742 e_x_5740_0 e_x_5740_1 hB => ?_)
    obtain ⟨hP, hD⟩ := Bw.goN (ws' := [(oc7 oM iM_thrown rM_tape iM_taped iM_size iM_at iM_end iM_token iM_whole iM_nameSize x_5740 x_5741 iM_trouble rM_letters x_5742 iM_hasCourt rM_r rM_fresh rM_told rM_read rM_st rM_undone rM_kept iM_undos iM_images rM_fresher iM_fresherSize iM_scale iM_night rM_heardRow rM_cutRow iM_breaths iM_cutMany iM_allBreaths rM_trial rM_words iM_fewestBreaths iM_orderMany iM_orderSum iM_leastOrder rM_often iM_setMany iM_someOf iM_allOf iM_allWeight iM_enoughWeight iM_worthSum iM_firstRest iM_leastDrawn), (arI rM_tape kM_tape 900 fM_tape), (arI rM_letters kM_letters 8 fM_letters), (arI rM_fresh kM_fresh 287 fM_fresh), (arI rM_read kM_read 90 fM_read)]) hB rfl ht hP hD _ hMs hk1 hFc rfl
    clear hz1 hk1 hvm ht hB hMs
    have hG := hG.trans (un3_eq e_x_5740_1)
    refine lv_aload_n hx hb dX7_saidLine_18 rfl (lv_at hl 0 rfl) ?_
    obtain ⟨sa_5743, vsa_5743, nsa_5743, fsa_5743, hnsa_5743, hnesa_5743, hfesa_5743, hRsa_5743, hSsa_5743⟩ := hE.2.2.1 (148, "said", [115, 97, 105, 100]) (by decide)
    have hG := hG.trans (lt_eq hnesa_5743)
    have hG := hG.trans (lt_eq hfesa_5743)
    refine va_ldcS hx hb hown hRsa_5743 dX7_saidLine_19 ?_
    refine lv_iconst (v := 1) hx hb dX7_saidLine_21 (by decide) ?_
    have hFc := va_freeI hD hS hA
    refine va_calli (va_runV (As := [.ref sa_5743, .int 1]) (rest := []) ⟨hx, hb, hml, hown, hts⟩ (tX7_begins l dC dI _ oM iM_thrown rM_tape fM_tape kM_tape iM_taped iM_size iM_at iM_end iM_token iM_whole iM_nameSize x_5740 x_5741 iM_trouble rM_letters fM_letters kM_letters x_5742 iM_hasCourt rM_r rM_fresh fM_fresh kM_fresh rM_told rM_read fM_read kM_read rM_st rM_undone rM_kept iM_undos iM_images rM_fresher iM_fresherSize iM_scale iM_night rM_heardRow rM_cutRow iM_breaths iM_cutMany iM_allBreaths rM_trial rM_words iM_fewestBreaths iM_orderMany iM_orderSum iM_leastOrder rM_often iM_setMany iM_someOf iM_allOf iM_allWeight iM_enoughWeight iM_worthSum iM_firstRest iM_leastDrawn sa_5743 1 vsa_5743 nsa_5743 fsa_5743 b_iM_taped b_iM_size b_iM_end b_iM_nameSize b_x_5742 b_iM_hasCourt b_iM_undos b_iM_images b_iM_scale b_iM_breaths b_iM_cutMany r_T r_P (Nat.le_trans (Nat.le_of_eq hnesa_5743) (by decide)) ⟨(om_1b364b1c kc_1), (om_02032f93 kc_1)⟩) (cwV 2 hts (wd_V wd_450 wd_451 wd_452 wd_5 (wd_c wd_453)) rfl rfl rfl dv_yX7_begins_2 ⟨Nat.le_of_ble_eq_true rfl, Nat.le_of_ble_eq_true rfl⟩) ⟨Pq.fb, recvX7 hK hP (q0 := 0) rfl, fun U hU hW => Pq.to hP hD hK hSsa_5743 hE hS hFc hU hW⟩ rfl rfl hl.1 rfl (lv_room (Nat.le_of_ble_eq_true rfl)) dX7_saidLine_22 ⟨Nat.le_of_ble_eq_true rfl, Nat.le_of_ble_eq_true rfl⟩) hS (fun q _ h => hFc q h) hFc (fun r u t H locs ht hvm hw hB hz1 hk1 hS => ?_)
    have hru9 := hw.2
    have hw := hw.1
    refine ex_9_9 hB (fun x_5744 x_5745 x_5746 x_5747 x_5748 x_5749 x_5750 x_5751 f_5752 b_x_5745 b_x_5748 b_x_5751 e_x_5744_0 e_x_5744_1 e_x_5744_2 e_x_5744_3 e_x_5744_4 e_x_5744_5 hB => ?_)
    obtain ⟨hP, hD⟩ := Bw.goA (ws' := [(oc7 oM iM_thrown rM_tape iM_taped iM_size x_5744 x_5745 x_5746 x_5747 x_5748 x_5749 x_5750 iM_trouble rM_letters x_5751 iM_hasCourt rM_r rM_fresh rM_told rM_read rM_st rM_undone rM_kept iM_undos iM_images rM_fresher iM_fresherSize iM_scale iM_night rM_heardRow rM_cutRow iM_breaths iM_cutMany iM_allBreaths rM_trial rM_words iM_fewestBreaths iM_orderMany iM_orderSum iM_leastOrder rM_often iM_setMany iM_someOf iM_allOf iM_allWeight iM_enoughWeight iM_worthSum iM_firstRest iM_leastDrawn), (arI rM_tape kM_tape 900 fM_tape), (arI rM_letters kM_letters 8 f_5752), (arI rM_fresh kM_fresh 287 fM_fresh), (arI rM_read kM_read 90 fM_read)]) hB rfl ht hFc rfl
    clear hz1 hk1 hvm ht hB
    rw [← hru9] at e_x_5744_5
    obtain ⟨x_5753, rfl⟩ : ∃ z, z = r := ⟨_, rfl⟩
    have hG := hG.trans (un10_eq e_x_5744_5)
    have bx_5753 := hw.1
    have dx_5753 := bz_tb bx_5753
    have lx_5753 := hw.2
    clear r_T
    refine lv_pop hx hb dX7_saidLine_25 rfl ?_
    refine lv_aload_n hx hb dX7_saidLine_26 rfl (lv_at hl 0 rfl) ?_
    refine lv_iconst (v := 0) hx hb dX7_saidLine_27 (by decide) ?_
    refine lv_bipush (v := 99) hx hb dX7_saidLine_28 (by decide) ?_
    have hMs := ml_of hD [true, true, true, false, false] (wc := [(oc7 oM iM_thrown rM_tape iM_taped iM_size x_5744 x_5745 x_5746 x_5747 x_5748 x_5749 x_5750 iM_trouble rM_letters x_5751 iM_hasCourt rM_r rM_fresh rM_told rM_read rM_st rM_undone rM_kept iM_undos iM_images rM_fresher iM_fresherSize iM_scale iM_night rM_heardRow rM_cutRow iM_breaths iM_cutMany iM_allBreaths rM_trial rM_words iM_fewestBreaths iM_orderMany iM_orderSum iM_leastOrder rM_often iM_setMany iM_someOf iM_allOf iM_allWeight iM_enoughWeight iM_worthSum iM_firstRest iM_leastDrawn), (arI rM_tape kM_tape 900 fM_tape), (arI rM_letters kM_letters 8 f_5752)]) rfl
    have hFc := va_freeM hD hS hA _ hMs
    refine va_calli (va_runV (As := [.int 0, .int 99]) (rest := []) ⟨hx, hb, hml, hown, hts⟩ (tX7_number l dC dI _ oM iM_thrown rM_tape fM_tape kM_tape iM_taped iM_size x_5744 x_5745 x_5746 x_5747 x_5748 x_5749 x_5750 iM_trouble rM_letters f_5752 kM_letters x_5751 iM_hasCourt rM_r rM_fresh rM_told rM_read rM_st rM_undone rM_kept iM_undos iM_images rM_fresher iM_fresherSize iM_scale iM_night rM_heardRow rM_cutRow iM_breaths iM_cutMany iM_allBreaths rM_trial rM_words iM_fewestBreaths iM_orderMany iM_orderSum iM_leastOrder rM_often iM_setMany iM_someOf iM_allOf iM_allWeight iM_enoughWeight iM_worthSum iM_firstRest iM_leastDrawn 0 99 b_iM_taped b_iM_size b_x_5745 b_x_5748 b_x_5751 b_iM_hasCourt b_iM_undos b_iM_images b_iM_scale b_iM_breaths b_iM_cutMany e_x_5744_1 (om_b0b40937 kc_0 kc_99)) (cwV 2 hts (wd_V wd_446 wd_447 wd_448 wd_5 (wd_c wd_449)) rfl rfl rfl dv_yX7_number_2 ⟨Nat.le_of_ble_eq_true rfl, Nat.le_of_ble_eq_true rfl⟩) ⟨Pw.fb, recvX7 hK hP (q0 := 0) rfl, fun U hU hW => Pw.to (hP.ms _ hMs) (hD.ms _ hMs) (hK.ms [true, true, false, false] rfl) hE hS hFc hU hW⟩ rfl rfl hl.1 rfl (lv_room (Nat.le_of_ble_eq_true rfl)) dX7_saidLine_30 ⟨Nat.le_of_ble_eq_true rfl, Nat.le_of_ble_eq_true rfl⟩) hS (fun q _ h => hFc q h) hFc (fun r u t H locs ht hvm hw hB hz1 hk1 hS => ?_)
    have hru9 := hw.2
    have hw := hw.1
    refine ex_9_8 hB (fun x_5754 x_5755 x_5756 x_5757 x_5758 x_5759 x_5760 x_5761 f_5762 b_x_5755 b_x_5758 b_x_5761 e_x_5754_0 e_x_5754_1 e_x_5754_2 e_x_5754_3 e_x_5754_4 hB => ?_)
    obtain ⟨hP, hD⟩ := Bw.goN (ws' := [(oc7 oM iM_thrown rM_tape iM_taped iM_size x_5754 x_5755 x_5756 x_5757 x_5758 x_5759 x_5760 iM_trouble rM_letters x_5761 iM_hasCourt rM_r rM_fresh rM_told rM_read rM_st rM_undone rM_kept iM_undos iM_images rM_fresher iM_fresherSize iM_scale iM_night rM_heardRow rM_cutRow iM_breaths iM_cutMany iM_allBreaths rM_trial rM_words iM_fewestBreaths iM_orderMany iM_orderSum iM_leastOrder rM_often iM_setMany iM_someOf iM_allOf iM_allWeight iM_enoughWeight iM_worthSum iM_firstRest iM_leastDrawn), (arI rM_tape kM_tape 900 fM_tape), (arI rM_letters kM_letters 8 f_5762), (arI rM_fresh kM_fresh 287 fM_fresh), (arI rM_read kM_read 90 fM_read)]) hB rfl ht hP hD _ hMs hk1 hFc rfl
    clear hz1 hk1 hvm ht hB hMs
    rw [← hru9] at e_x_5754_4
    obtain ⟨x_5763, rfl⟩ : ∃ z, z = r := ⟨_, rfl⟩
    have hG := hG.trans (un10_eq e_x_5754_4)
    have lx_5763 := hw.2
    have kl_0 := kc_0
    have kl_99 := kc_99
    clear e_x_5744_1
    clear e_x_5744_4
    refine lv_istore_n (lv' := [(1, .int x_5763), (0, .ref oM)]) hx hb dX7_saidLine_33 rfl hl (by decide) rfl (fun ls hl => ?_)
    refine lv_aload_n hx hb dX7_saidLine_34 rfl (lv_at hl 1 rfl) ?_
    refine va_get (D := (dC, dI)) (ci := 7) (v := .int x_5761) (C := RX7) (T := TX7) (N := 48) hx hb hts inX7 hown hK hP 0 rfl rfl 13 (by decide) (hts _ wd_380) (fun _ h9 => h9) rfl dX7_saidLine_35 ?_
    refine lv_if_ne (tgt := 50) hx hb dX7_saidLine_38 (by decide) (fun c_5764 => ?_) (fun c_5764 => ?_)
    · skip
      have hG := hG.trans (if_neg c_5764)
      have gc_5764 := ti_ne c_5764 rfl kc_0
      replace gc_5764 : (-1) * x_5761.toInt + 1 ≤ 0 := om_e3003f79 gc_5764 b_x_5761.1
      exact wq_v hx hb hr 0 trivial (fun t ht hW => ⟨x_5754, x_5755, x_5756, x_5757, x_5758, x_5759, x_5760, x_5761, f_5762, fM_fresh, b_x_5755, b_x_5758, b_x_5761, (om_9348f5ae e_x_5744_0 e_x_5754_0), e_x_5754_1, (om_be042b3b b_iM_failed.2 gc_5764), (fun h9 => False.elim (om_a5fe015d gc_5764 h9.1)), r_P, hG, Bw.to hP hD hK ht hW⟩) hS dX7_saidLine_50 hlocks
    · skip
      have hG := hG.trans (if_pos c_5764)
      have gc_5764 := ti_eq c_5764 rfl kc_0
      exact ((om_5c6c3440 e_x_5740_0 e_x_5744_2 e_x_5754_2 gc_5764)).elim
set_option maxHeartbeats 4000000 in
set_option maxRecDepth 100000 in
theorem tX7_unsureLine (l : Launch) (dC : Nat → ClassId) (dI : Nat → Nat → Nat) (sz : Nat) (oM : Nat) (iM_thrown : Int32) (rM_tape : Nat) (fM_tape : Nat → Int32) (kM_tape : ClassId) (iM_taped : Int32) (iM_size : Int32) (iM_at : Int32) (iM_end : Int32) (iM_token : Int32) (iM_whole : Int32) (iM_nameSize : Int32) (iM_fault : Int32) (iM_place : Int32) (iM_trouble : Int32) (rM_letters : Nat) (fM_letters : Nat → Int32) (kM_letters : ClassId) (iM_failed : Int32) (iM_hasCourt : Int32) (rM_r : Nat) (rM_fresh : Nat) (fM_fresh : Nat → Int32) (kM_fresh : ClassId) (rM_told : Nat) (rM_read : Nat) (fM_read : Nat → Int32) (kM_read : ClassId) (rM_st : Nat) (rM_undone : Nat) (rM_kept : Nat) (iM_undos : Int32) (iM_images : Int32) (rM_fresher : Nat) (iM_fresherSize : Int32) (iM_scale : Int32) (iM_night : Int32) (rM_heardRow : Nat) (rM_cutRow : Nat) (iM_breaths : Int32) (iM_cutMany : Int32) (iM_allBreaths : Int32) (rM_trial : Nat) (rM_words : Nat) (iM_fewestBreaths : Int32) (iM_orderMany : Int32) (iM_orderSum : Int32) (iM_leastOrder : Int32) (rM_often : Nat) (iM_setMany : Int32) (iM_someOf : Int32) (iM_allOf : Int32) (iM_allWeight : Int64) (iM_enoughWeight : Int64) (iM_worthSum : Int64) (iM_firstRest : Int32) (iM_leastDrawn : Int32) (b_iM_taped : 0 ≤ iM_taped.toInt ∧ iM_taped.toInt ≤ 900) (b_iM_size : 0 ≤ iM_size.toInt ∧ iM_size.toInt ≤ 900) (b_iM_end : 0 ≤ iM_end.toInt ∧ iM_end.toInt ≤ 900) (b_iM_nameSize : 0 ≤ iM_nameSize.toInt ∧ iM_nameSize.toInt ≤ 900) (b_iM_failed : 0 ≤ iM_failed.toInt ∧ iM_failed.toInt ≤ 1) (b_iM_hasCourt : 0 ≤ iM_hasCourt.toInt ∧ iM_hasCourt.toInt ≤ 1) (b_iM_undos : 0 ≤ iM_undos.toInt ∧ iM_undos.toInt ≤ 16) (b_iM_images : 0 ≤ iM_images.toInt ∧ iM_images.toInt ≤ 3) (b_iM_scale : 1 ≤ iM_scale.toInt ∧ iM_scale.toInt ≤ 1296) (b_iM_breaths : 0 ≤ iM_breaths.toInt ∧ iM_breaths.toInt ≤ 399) (b_iM_cutMany : 0 ≤ iM_cutMany.toInt ∧ iM_cutMany.toInt ≤ 399) (r_T : ImpP (iM_token.toInt = 2) (iM_nameSize.toInt ≤ 8)) (r_P : POk fM_fresh fM_read) (hul : ImpP (iM_failed.toInt ≤ 0) ((fM_fresh 3).toInt ≤ 3)) : Met l yX7_unsureLine (Cond.code yX7_unsureLine cX7_unsureLine 4 none :: wG) ({ frames := 7, cells := 0, slots := 0, locals := 175 }) (va_Pc [.ref oM] (Pw dC dI sz [(oc7 oM iM_thrown rM_tape iM_taped iM_size iM_at iM_end iM_token iM_whole iM_nameSize iM_fault iM_place iM_trouble rM_letters iM_failed iM_hasCourt rM_r rM_fresh rM_told rM_read rM_st rM_undone rM_kept iM_undos iM_images rM_fresher iM_fresherSize iM_scale iM_night rM_heardRow rM_cutRow iM_breaths iM_cutMany iM_allBreaths rM_trial rM_words iM_fewestBreaths iM_orderMany iM_orderSum iM_leastOrder rM_often iM_setMany iM_someOf iM_allOf iM_allWeight iM_enoughWeight iM_worthSum iM_firstRest iM_leastDrawn), (arI rM_tape kM_tape 900 fM_tape), (arI rM_letters kM_letters 8 fM_letters), (arI rM_fresh kM_fresh 287 fM_fresh), (arI rM_read kM_read 90 fM_read)] [(kM_tape, .int), (kM_letters, .int), (kM_fresh, .int), (kM_read, .int)])) (va_Qv (fun (_ : Nat) => True) (fun (_ : Nat) (t : State) => ∃ (niM_at : Int32) (niM_end : Int32) (niM_token : Int32) (niM_whole : Int32) (niM_nameSize : Int32) (niM_fault : Int32) (niM_place : Int32) (niM_failed : Int32) (nfM_letters : Nat → Int32) (nfM_fresh : Nat → Int32), (0 ≤ niM_end.toInt ∧ niM_end.toInt ≤ 900) ∧ (0 ≤ niM_nameSize.toInt ∧ niM_nameSize.toInt ≤ 900) ∧ (0 ≤ niM_failed.toInt ∧ niM_failed.toInt ≤ 1) ∧ (iM_end.toInt ≤ niM_end.toInt) ∧ (ImpP (niM_token.toInt = 2) (niM_nameSize.toInt ≤ 8)) ∧ (iM_failed.toInt ≤ niM_failed.toInt) ∧ (ImpP (niM_failed.toInt ≤ 0 ∧ niM_token.toInt = 59 ) (iM_end.toInt + 1 ≤ niM_end.toInt)) ∧ (POk nfM_fresh fM_read) ∧ (PX7_unsureLine fM_tape iM_size iM_at iM_end iM_token iM_whole iM_nameSize iM_fault iM_place fM_letters iM_failed fM_fresh = (niM_at, niM_end, niM_token, niM_whole, niM_nameSize, niM_fault, niM_place, niM_failed, nfM_letters, nfM_fresh)) ∧ Bw dC dI (va_A [(oc7 oM iM_thrown rM_tape iM_taped iM_size iM_at iM_end iM_token iM_whole iM_nameSize iM_fault iM_place iM_trouble rM_letters iM_failed iM_hasCourt rM_r rM_fresh rM_told rM_read rM_st rM_undone rM_kept iM_undos iM_images rM_fresher iM_fresherSize iM_scale iM_night rM_heardRow rM_cutRow iM_breaths iM_cutMany iM_allBreaths rM_trial rM_words iM_fewestBreaths iM_orderMany iM_orderSum iM_leastOrder rM_often iM_setMany iM_someOf iM_allOf iM_allWeight iM_enoughWeight iM_worthSum iM_firstRest iM_leastDrawn), (arI rM_tape kM_tape 900 fM_tape), (arI rM_letters kM_letters 8 fM_letters), (arI rM_fresh kM_fresh 287 fM_fresh), (arI rM_read kM_read 90 fM_read)] sz) [(oc7 oM iM_thrown rM_tape iM_taped iM_size niM_at niM_end niM_token niM_whole niM_nameSize niM_fault niM_place iM_trouble rM_letters niM_failed iM_hasCourt rM_r rM_fresh rM_told rM_read rM_st rM_undone rM_kept iM_undos iM_images rM_fresher iM_fresherSize iM_scale iM_night rM_heardRow rM_cutRow iM_breaths iM_cutMany iM_allBreaths rM_trial rM_words iM_fewestBreaths iM_orderMany iM_orderSum iM_leastOrder rM_often iM_setMany iM_someOf iM_allOf iM_allWeight iM_enoughWeight iM_worthSum iM_firstRest iM_leastDrawn), (arI rM_tape kM_tape 900 fM_tape), (arI rM_letters kM_letters 8 nfM_letters), (arI rM_fresh kM_fresh 287 nfM_fresh), (arI rM_read kM_read 90 fM_read)] [(kM_tape, .int), (kM_letters, .int), (kM_fresh, .int), (kM_read, .int)] t) (va_A [(oc7 oM iM_thrown rM_tape iM_taped iM_size iM_at iM_end iM_token iM_whole iM_nameSize iM_fault iM_place iM_trouble rM_letters iM_failed iM_hasCourt rM_r rM_fresh rM_told rM_read rM_st rM_undone rM_kept iM_undos iM_images rM_fresher iM_fresherSize iM_scale iM_night rM_heardRow rM_cutRow iM_breaths iM_cutMany iM_allBreaths rM_trial rM_words iM_fewestBreaths iM_orderMany iM_orderSum iM_leastOrder rM_often iM_setMany iM_someOf iM_allOf iM_allWeight iM_enoughWeight iM_worthSum iM_firstRest iM_leastDrawn), (arI rM_tape kM_tape 900 fM_tape), (arI rM_letters kM_letters 8 fM_letters), (arI rM_fresh kM_fresh 287 fM_fresh), (arI rM_read kM_read 90 fM_read)] sz)) 0 0 (va_A [(oc7 oM iM_thrown rM_tape iM_taped iM_size iM_at iM_end iM_token iM_whole iM_nameSize iM_fault iM_place iM_trouble rM_letters iM_failed iM_hasCourt rM_r rM_fresh rM_told rM_read rM_st rM_undone rM_kept iM_undos iM_images rM_fresher iM_fresherSize iM_scale iM_night rM_heardRow rM_cutRow iM_breaths iM_cutMany iM_allBreaths rM_trial rM_words iM_fewestBreaths iM_orderMany iM_orderSum iM_leastOrder rM_often iM_setMany iM_someOf iM_allOf iM_allWeight iM_enoughWeight iM_worthSum iM_firstRest iM_leastDrawn), (arI rM_tape kM_tape 900 fM_tape), (arI rM_letters kM_letters 8 fM_letters), (arI rM_fresh kM_fresh 287 fM_fresh), (arI rM_read kM_read 90 fM_read)] sz) := by
  refine Met.ofW (cc := cX7_unsureLine) (maxL := 4) (ret := none) pnX7 rfl ?_
  intro p e s m args below meth c s₁ B hml hv
  obtain ⟨rfl, hsz, hP, hK, hD0, hE⟩ := hv
  have hx := B.exec
  have hb := B.bytes
  have hr := B.returns
  have hts : ∀ w ∈ wG, w.before ([.ref oM] : List Value).toArray s = true := fun w h => atoms_spec (ws := Cond.code yX7_unsureLine cX7_unsureLine 4 none :: wG) B.pre w (List.mem_cons_of_mem _ h)
  have hown : s.vm.findClass RX7 = some m.cls := own_of B.named rfl
  have hlocks := B.notSynchronized
  subst hsz
  have hD := hD0.self (sz := s.heap.size)
  generalize hAe : va_A [(oc7 oM iM_thrown rM_tape iM_taped iM_size iM_at iM_end iM_token iM_whole iM_nameSize iM_fault iM_place iM_trouble rM_letters iM_failed iM_hasCourt rM_r rM_fresh rM_told rM_read rM_st rM_undone rM_kept iM_undos iM_images rM_fresher iM_fresherSize iM_scale iM_night rM_heardRow rM_cutRow iM_breaths iM_cutMany iM_allBreaths rM_trial rM_words iM_fewestBreaths iM_orderMany iM_orderSum iM_leastOrder rM_often iM_setMany iM_someOf iM_allOf iM_allWeight iM_enoughWeight iM_worthSum iM_firstRest iM_leastDrawn), (arI rM_tape kM_tape 900 fM_tape), (arI rM_letters kM_letters 8 fM_letters), (arI rM_fresh kM_fresh 287 fM_fresh), (arI rM_read kM_read 90 fM_read)] s.heap.size = A at hD hE ⊢
  have hA : ∀ q : Nat, s.heap.size ≤ q → A q := fun q h => by rw [← hAe]; exact Or.inr h
  have hS : va_S A s.heap s.heap [] := va_S.rf
  have hl := lv_entry ([.ref oM]) (n := 4) (Nat.le_of_ble_eq_true rfl)
  rw [lg_entry_eq]
  generalize (lg_sl ([.ref oM]) ++ List.replicate (4 - (lg_sl ([.ref oM])).length) Slot.unset).toArray = ls at hl ⊢
  have hl : lv_has ls 4 [(0, .ref oM)] := hl
  have hG := PX7_unsureLine_eq fM_tape iM_size iM_at iM_end iM_token iM_whole iM_nameSize iM_fault iM_place fM_letters iM_failed fM_fresh
  have pl_fM_fresh := r_P.lins
  refine lv_aload_n hx hb dX7_unsureLine_0 rfl (lv_at hl 0 rfl) ?_
  refine va_get (D := (dC, dI)) (ci := 7) (v := .int iM_failed) (C := RX7) (T := TX7) (N := 48) hx hb hts inX7 hown hK hP 0 rfl rfl 13 (by decide) (hts _ wd_380) (fun _ h9 => h9) rfl dX7_unsureLine_1 ?_
  refine lv_if_eq (tgt := 8) hx hb dX7_unsureLine_4 (by decide) (fun c_5876 => ?_) (fun c_5876 => ?_)
  · skip
    have hG := hG.trans (if_pos c_5876)
    have gc_5876 := ti_eq c_5876 rfl kc_0
    have h_5877 : (fM_fresh 3).toInt ≤ 3 := hul (om_02e9bb08 gc_5876)
    clear hul
    refine lv_bipush (v := 117) hx hb dX7_unsureLine_8 (by decide) ?_
    refine lv_iconst (v := 2) hx hb dX7_unsureLine_10 (by decide) ?_
    refine lv_aload_n hx hb dX7_unsureLine_11 rfl (lv_at hl 0 rfl) ?_
    refine va_get (D := (dC, dI)) (ci := 7) (v := .ref rM_fresh) (C := RX7) (T := TX7) (N := 48) hx hb hts inX7 hown hK hP 0 rfl rfl 16 (by decide) (hts _ wd_156) (fun _ h9 => h9) rfl dX7_unsureLine_12 ?_
    refine lv_iconst (v := 3) hx hb dX7_unsureLine_15 (by decide) ?_
    refine va_iald hx hb hK hP 3 2 rfl rfl (by unfold vp_in; decide) dX7_unsureLine_16 ?_
    refine lv_topi (fun x_5878 ex_5878 => ?_)
    have hG := hG.trans (lt_eq ex_5878)
    have cx_5878 : (fM_fresh 3).toInt = x_5878.toInt := congrArg Int32.toInt (show fM_fresh 3 = x_5878 from ex_5878.symm)
    refine lv_imul hx hb dX7_unsureLine_17 ?_
    refine lv_topi (fun x_5879 ex_5879 => ?_)
    have hG := hG.trans (lt_eq ex_5879)
    have vx_5879 : x_5879.toInt = 2 * x_5878.toInt := ti_mul ex_5879 kc_2 rfl (om_ced40591 pl_fM_fresh.2.2.2.1.1 cx_5878) (om_88ac8d02 pl_fM_fresh.2.2.2.1.2 cx_5878)
    refine lv_iadd hx hb dX7_unsureLine_18 ?_
    refine lv_topi (fun x_5880 ex_5880 => ?_)
    have hG := hG.trans (lt_eq ex_5880)
    have vx_5880 : x_5880.toInt = 2 * x_5878.toInt + 117 := om_67044d60 (ti_add ex_5880 kc_117 vx_5879 (om_530ef2ed pl_fM_fresh.2.2.2.1.1 cx_5878) (om_49eb7f00 pl_fM_fresh.2.2.2.1.2 cx_5878))
    refine lv_istore_n (lv' := [(1, .int x_5880), (0, .ref oM)]) hx hb dX7_unsureLine_19 rfl hl (by decide) rfl (fun ls hl => ?_)
    refine lv_aload_n hx hb dX7_unsureLine_20 rfl (lv_at hl 1 rfl) ?_
    have hMs := ml_of hD [true, false, true, true, true] (wc := [(oc7 oM iM_thrown rM_tape iM_taped iM_size iM_at iM_end iM_token iM_whole iM_nameSize iM_fault iM_place iM_trouble rM_letters iM_failed iM_hasCourt rM_r rM_fresh rM_told rM_read rM_st rM_undone rM_kept iM_undos iM_images rM_fresher iM_fresherSize iM_scale iM_night rM_heardRow rM_cutRow iM_breaths iM_cutMany iM_allBreaths rM_trial rM_words iM_fewestBreaths iM_orderMany iM_orderSum iM_leastOrder rM_often iM_setMany iM_someOf iM_allOf iM_allWeight iM_enoughWeight iM_worthSum iM_firstRest iM_leastDrawn), (arI rM_letters kM_letters 8 fM_letters), (arI rM_fresh kM_fresh 287 fM_fresh), (arI rM_read kM_read 90 fM_read)]) rfl
    have hFc := va_freeM hD hS hA _ hMs
    refine va_calli (va_runV (As := []) (rest := []) ⟨hx, hb, hml, hown, hts⟩ (tX7_nodeHere l dC dI _ oM iM_thrown rM_tape iM_taped iM_size iM_at iM_end iM_token iM_whole iM_nameSize iM_fault iM_place iM_trouble rM_letters fM_letters kM_letters iM_failed iM_hasCourt rM_r rM_fresh fM_fresh kM_fresh rM_told rM_read fM_read kM_read rM_st rM_undone rM_kept iM_undos iM_images rM_fresher iM_fresherSize iM_scale iM_night rM_heardRow rM_cutRow iM_breaths iM_cutMany iM_allBreaths rM_trial rM_words iM_fewestBreaths iM_orderMany iM_orderSum iM_leastOrder rM_often iM_setMany iM_someOf iM_allOf iM_allWeight iM_enoughWeight iM_worthSum iM_firstRest iM_leastDrawn b_iM_taped b_iM_size b_iM_end b_iM_nameSize b_iM_failed b_iM_hasCourt b_iM_undos b_iM_images b_iM_scale b_iM_breaths b_iM_cutMany r_T r_P) (cwV 0 hts (wd_V wd_486 wd_487 wd_488 wd_5 (wd_c wd_489)) rfl rfl rfl dv_yX7_nodeHere_0 ⟨Nat.le_of_ble_eq_true rfl, Nat.le_of_ble_eq_true rfl⟩) ⟨Pw.fb, recvX7 hK hP (q0 := 0) rfl, fun U hU hW => Pw.to (hP.ms _ hMs) (hD.ms _ hMs) (hK.ms [false, true, true, true] rfl) hE hS hFc hU hW⟩ rfl rfl hl.1 rfl (lv_room (Nat.le_of_ble_eq_true rfl)) dX7_unsureLine_21 ⟨Nat.le_of_ble_eq_true rfl, Nat.le_of_ble_eq_true rfl⟩) hS (fun q _ h => hFc q h) hFc (fun r u t H locs ht hvm hw hB hz1 hk1 hS => ?_)
    have hru9 := hw.2
    have hw := hw.1
    refine ex_3_4 hB (fun x_5881 x_5882 x_5883 b_x_5883 e_x_5881_0 e_x_5881_1 e_x_5881_2 hB => ?_)
    obtain ⟨hP, hD⟩ := Bw.goN (ws' := [(oc7 oM iM_thrown rM_tape iM_taped iM_size iM_at iM_end iM_token iM_whole iM_nameSize x_5881 x_5882 iM_trouble rM_letters x_5883 iM_hasCourt rM_r rM_fresh rM_told rM_read rM_st rM_undone rM_kept iM_undos iM_images rM_fresher iM_fresherSize iM_scale iM_night rM_heardRow rM_cutRow iM_breaths iM_cutMany iM_allBreaths rM_trial rM_words iM_fewestBreaths iM_orderMany iM_orderSum iM_leastOrder rM_often iM_setMany iM_someOf iM_allOf iM_allWeight iM_enoughWeight iM_worthSum iM_firstRest iM_leastDrawn), (arI rM_tape kM_tape 900 fM_tape), (arI rM_letters kM_letters 8 fM_letters), (arI rM_fresh kM_fresh 287 fM_fresh), (arI rM_read kM_read 90 fM_read)]) hB rfl ht hP hD _ hMs hk1 hFc rfl
    clear hz1 hk1 hvm ht hB hMs
    rw [← hru9] at e_x_5881_2
    obtain ⟨x_5884, rfl⟩ : ∃ z, z = r := ⟨_, rfl⟩
    have hG := hG.trans (un4_eq e_x_5881_2)
    have lx_5884 := hw.2
    have ux_5884 := hw.2
    refine lv_istore_n (lv' := [(2, .int x_5884), (1, .int x_5880), (0, .ref oM)]) hx hb dX7_unsureLine_24 rfl hl (by decide) rfl (fun ls hl => ?_)
    refine lv_aload_n hx hb dX7_unsureLine_25 rfl (lv_at hl 2 rfl) ?_
    refine va_get (D := (dC, dI)) (ci := 7) (v := .int x_5883) (C := RX7) (T := TX7) (N := 48) hx hb hts inX7 hown hK hP 0 rfl rfl 13 (by decide) (hts _ wd_380) (fun _ h9 => h9) rfl dX7_unsureLine_26 ?_
    refine lv_if_ne (tgt := 53) hx hb dX7_unsureLine_29 (by decide) (fun c_5885 => ?_) (fun c_5885 => ?_)
    · skip
      have hG := hG.trans (if_neg c_5885)
      have gc_5885 := ti_ne c_5885 rfl kc_0
      replace gc_5885 : (-1) * x_5883.toInt + 1 ≤ 0 := om_e3003f79 gc_5885 b_x_5883.1
      clear e_x_5881_1
      refine lv_iconst (v := 0) hx hb dX7_unsureLine_53 (by decide) ?_
      refine lv_istore_n (lv' := [(3, .int 0), (2, .int x_5884), (1, .int x_5880), (0, .ref oM)]) hx hb dX7_unsureLine_54 rfl hl (by decide) rfl (fun ls hl => ?_)
      have hl := lv_sub hl (l' := [(3, .int 0), (2, .int x_5884), (1, .int x_5880), (0, .ref oM)]) [0, 1, 2, 3] rfl
      have key_n_5890 : ∀ (n_5890 : Nat) (z_5886 : Int32) (z_5887 : Int32) (z_5888 : Int32) (z_5889 : Int32) (H : Heap) (locs : List Loc) (ls : Array Slot), (0 ≤ z_5887.toInt ∧ z_5887.toInt ≤ 1) → (0 ≤ z_5886.toInt ∧ z_5886.toInt ≤ 4) → (x_5883.toInt ≤ z_5887.toInt) → (4 - z_5886.toInt).toNat < n_5890 → (PX7_unsureLine fM_tape iM_size iM_at iM_end iM_token iM_whole iM_nameSize iM_fault iM_place fM_letters iM_failed fM_fresh = HX7_unsureLine_1 fM_tape iM_size iM_at iM_end iM_token iM_whole iM_nameSize fM_letters fM_fresh n_5890 z_5886 z_5887 z_5888 z_5889) → va_P (dC, dI) vwCl [(oc7 oM iM_thrown rM_tape iM_taped iM_size iM_at iM_end iM_token iM_whole iM_nameSize z_5888 z_5889 iM_trouble rM_letters z_5887 iM_hasCourt rM_r rM_fresh rM_told rM_read rM_st rM_undone rM_kept iM_undos iM_images rM_fresher iM_fresherSize iM_scale iM_night rM_heardRow rM_cutRow iM_breaths iM_cutMany iM_allBreaths rM_trial rM_words iM_fewestBreaths iM_orderMany iM_orderSum iM_leastOrder rM_often iM_setMany iM_someOf iM_allOf iM_allWeight iM_enoughWeight iM_worthSum iM_firstRest iM_leastDrawn), (arI rM_tape kM_tape 900 fM_tape), (arI rM_letters kM_letters 8 fM_letters), (arI rM_fresh kM_fresh 287 fM_fresh), (arI rM_read kM_read 90 fM_read)] H → va_D A [(oc7 oM iM_thrown rM_tape iM_taped iM_size iM_at iM_end iM_token iM_whole iM_nameSize z_5888 z_5889 iM_trouble rM_letters z_5887 iM_hasCourt rM_r rM_fresh rM_told rM_read rM_st rM_undone rM_kept iM_undos iM_images rM_fresher iM_fresherSize iM_scale iM_night rM_heardRow rM_cutRow iM_breaths iM_cutMany iM_allBreaths rM_trial rM_words iM_fewestBreaths iM_orderMany iM_orderSum iM_leastOrder rM_often iM_setMany iM_someOf iM_allOf iM_allWeight iM_enoughWeight iM_worthSum iM_firstRest iM_leastDrawn), (arI rM_tape kM_tape 900 fM_tape), (arI rM_letters kM_letters 8 fM_letters), (arI rM_fresh kM_fresh 287 fM_fresh), (arI rM_read kM_read 90 fM_read)] → va_S A s.heap H locs → lv_has ls 4 [(3, .int z_5886), (2, .int x_5884), (1, .int x_5880), (0, .ref oM)] → W p l e (headSpec (Cond.code yX7_unsureLine cX7_unsureLine 4 none :: wG) ({ frames := 7, cells := 0, slots := 0, locals := 175 })).room s m ([.ref oM] : List Value).toArray below meth c H locs 0 0 (MQ below (va_Qv (fun (_ : Nat) => True) (fun (_ : Nat) (t : State) => ∃ (niM_at : Int32) (niM_end : Int32) (niM_token : Int32) (niM_whole : Int32) (niM_nameSize : Int32) (niM_fault : Int32) (niM_place : Int32) (niM_failed : Int32) (nfM_letters : Nat → Int32) (nfM_fresh : Nat → Int32), (0 ≤ niM_end.toInt ∧ niM_end.toInt ≤ 900) ∧ (0 ≤ niM_nameSize.toInt ∧ niM_nameSize.toInt ≤ 900) ∧ (0 ≤ niM_failed.toInt ∧ niM_failed.toInt ≤ 1) ∧ (iM_end.toInt ≤ niM_end.toInt) ∧ (ImpP (niM_token.toInt = 2) (niM_nameSize.toInt ≤ 8)) ∧ (iM_failed.toInt ≤ niM_failed.toInt) ∧ (ImpP (niM_failed.toInt ≤ 0 ∧ niM_token.toInt = 59 ) (iM_end.toInt + 1 ≤ niM_end.toInt)) ∧ (POk nfM_fresh fM_read) ∧ (PX7_unsureLine fM_tape iM_size iM_at iM_end iM_token iM_whole iM_nameSize iM_fault iM_place fM_letters iM_failed fM_fresh = (niM_at, niM_end, niM_token, niM_whole, niM_nameSize, niM_fault, niM_place, niM_failed, nfM_letters, nfM_fresh)) ∧ Bw dC dI A [(oc7 oM iM_thrown rM_tape iM_taped iM_size niM_at niM_end niM_token niM_whole niM_nameSize niM_fault niM_place iM_trouble rM_letters niM_failed iM_hasCourt rM_r rM_fresh rM_told rM_read rM_st rM_undone rM_kept iM_undos iM_images rM_fresher iM_fresherSize iM_scale iM_night rM_heardRow rM_cutRow iM_breaths iM_cutMany iM_allBreaths rM_trial rM_words iM_fewestBreaths iM_orderMany iM_orderSum iM_leastOrder rM_often iM_setMany iM_someOf iM_allOf iM_allWeight iM_enoughWeight iM_worthSum iM_firstRest iM_leastDrawn), (arI rM_tape kM_tape 900 fM_tape), (arI rM_letters kM_letters 8 nfM_letters), (arI rM_fresh kM_fresh 287 nfM_fresh), (arI rM_read kM_read 90 fM_read)] [(kM_tape, .int), (kM_letters, .int), (kM_fresh, .int), (kM_read, .int)] t) A) ([.ref oM] : List Value).toArray s 0 0 A) (F0 m 55 ls []) := by
        intro n_5890
        induction n_5890 with
        | zero => intro z_5886 z_5887 z_5888 z_5889 H locs ls b_z_5887 hi0_n_5890 hi1_n_5890 hm; exact absurd hm (Nat.not_lt_zero _)
        | succ n_5890 ih_n_5890 =>
          intro z_5886 z_5887 z_5888 z_5889 H locs ls b_z_5887 hi0_n_5890 hi1_n_5890 hm_n_5890 hG hP hD hS hl
          have hG := hG.trans (HX7_unsureLine_1_eq _ _ _ _ _ _ _ _ _ _ _ _ _ _)
          refine lv_iload_n hx hb dX7_unsureLine_55 rfl (lv_at hl 0 rfl) ?_
          refine lv_aload_n hx hb dX7_unsureLine_56 rfl (lv_at hl 3 rfl) ?_
          refine va_get (D := (dC, dI)) (ci := 7) (v := .ref rM_fresh) (C := RX7) (T := TX7) (N := 48) hx hb hts inX7 hown hK hP 0 rfl rfl 16 (by decide) (hts _ wd_156) (fun _ h9 => h9) rfl dX7_unsureLine_57 ?_
          refine lv_iconst (v := 3) hx hb dX7_unsureLine_60 (by decide) ?_
          refine va_iald hx hb hK hP 3 2 rfl rfl (by unfold vp_in; decide) dX7_unsureLine_61 ?_
          refine lv_topi (fun x_5891 ex_5891 => ?_)
          have hG := hG.trans (lt_eq ex_5891)
          have cx_5891 : (fM_fresh 3).toInt = x_5891.toInt := congrArg Int32.toInt (show fM_fresh 3 = x_5891 from ex_5891.symm)
          refine lv_icmp_ge (tgt := 102) hx hb dX7_unsureLine_62 (by decide) (fun c_5892 => ?_) (fun c_5892 => ?_)
          · skip
            have hG := hG.trans (if_pos c_5892)
            have gc_5892 := ti_le c_5892 rfl rfl
            refine lv_aload_n hx hb dX7_unsureLine_102 rfl (lv_at hl 3 rfl) ?_
            have hMs := ml_of hD [true, true, true, false, false] (wc := [(oc7 oM iM_thrown rM_tape iM_taped iM_size iM_at iM_end iM_token iM_whole iM_nameSize z_5888 z_5889 iM_trouble rM_letters z_5887 iM_hasCourt rM_r rM_fresh rM_told rM_read rM_st rM_undone rM_kept iM_undos iM_images rM_fresher iM_fresherSize iM_scale iM_night rM_heardRow rM_cutRow iM_breaths iM_cutMany iM_allBreaths rM_trial rM_words iM_fewestBreaths iM_orderMany iM_orderSum iM_leastOrder rM_often iM_setMany iM_someOf iM_allOf iM_allWeight iM_enoughWeight iM_worthSum iM_firstRest iM_leastDrawn), (arI rM_tape kM_tape 900 fM_tape), (arI rM_letters kM_letters 8 fM_letters)]) rfl
            have hFc := va_freeM hD hS hA _ hMs
            refine va_callv (va_runV (As := []) (rest := []) ⟨hx, hb, hml, hown, hts⟩ (tX7_pass l dC dI _ oM iM_thrown rM_tape fM_tape kM_tape iM_taped iM_size iM_at iM_end iM_token iM_whole iM_nameSize z_5888 z_5889 iM_trouble rM_letters fM_letters kM_letters z_5887 iM_hasCourt rM_r rM_fresh rM_told rM_read rM_st rM_undone rM_kept iM_undos iM_images rM_fresher iM_fresherSize iM_scale iM_night rM_heardRow rM_cutRow iM_breaths iM_cutMany iM_allBreaths rM_trial rM_words iM_fewestBreaths iM_orderMany iM_orderSum iM_leastOrder rM_often iM_setMany iM_someOf iM_allOf iM_allWeight iM_enoughWeight iM_worthSum iM_firstRest iM_leastDrawn b_iM_taped b_iM_size b_iM_end b_iM_nameSize b_z_5887 b_iM_hasCourt b_iM_undos b_iM_images b_iM_scale b_iM_breaths b_iM_cutMany r_T) (cwV 0 hts (wd_V wd_454 wd_455 wd_456 wd_5 (wd_c wd_457)) rfl rfl rfl dv_yX7_pass_0 ⟨Nat.le_of_ble_eq_true rfl, Nat.le_of_ble_eq_true rfl⟩) ⟨Pw.fb, recvX7 hK hP (q0 := 0) rfl, fun U hU hW => Pw.to (hP.ms _ hMs) (hD.ms _ hMs) (hK.ms [true, true, false, false] rfl) hE hS hFc hU hW⟩ rfl rfl hl.1 rfl (lv_room (Nat.le_of_ble_eq_true rfl)) dX7_unsureLine_103 ⟨Nat.le_of_ble_eq_true rfl, Nat.le_of_ble_eq_true rfl⟩) hS (fun q _ h => hFc q h) hFc (fun u t H locs ht hvm hw hB hz1 hk1 hS => ?_)
            refine ex_6_6 hB (fun x_5893 x_5894 x_5895 x_5896 x_5897 f_5898 b_x_5894 b_x_5897 e_x_5893_0 e_x_5893_1 e_x_5893_2 e_x_5893_3 hB => ?_)
            obtain ⟨hP, hD⟩ := Bw.goN (ws' := [(oc7 oM iM_thrown rM_tape iM_taped iM_size x_5893 x_5894 x_5895 x_5896 x_5897 z_5888 z_5889 iM_trouble rM_letters z_5887 iM_hasCourt rM_r rM_fresh rM_told rM_read rM_st rM_undone rM_kept iM_undos iM_images rM_fresher iM_fresherSize iM_scale iM_night rM_heardRow rM_cutRow iM_breaths iM_cutMany iM_allBreaths rM_trial rM_words iM_fewestBreaths iM_orderMany iM_orderSum iM_leastOrder rM_often iM_setMany iM_someOf iM_allOf iM_allWeight iM_enoughWeight iM_worthSum iM_firstRest iM_leastDrawn), (arI rM_tape kM_tape 900 fM_tape), (arI rM_letters kM_letters 8 f_5898), (arI rM_fresh kM_fresh 287 fM_fresh), (arI rM_read kM_read 90 fM_read)]) hB rfl ht hP hD _ hMs hk1 hFc rfl
            clear hz1 hk1 hvm ht hB hMs
            have hG := hG.trans (un6_eq e_x_5893_3)
            clear r_T
            refine lv_aload_n hx hb dX7_unsureLine_106 rfl (lv_at hl 3 rfl) ?_
            refine lv_iconst (v := 0) hx hb dX7_unsureLine_107 (by decide) ?_
            refine lv_bipush (v := 99) hx hb dX7_unsureLine_108 (by decide) ?_
            have hMs := ml_of hD [true, true, true, false, false] (wc := [(oc7 oM iM_thrown rM_tape iM_taped iM_size x_5893 x_5894 x_5895 x_5896 x_5897 z_5888 z_5889 iM_trouble rM_letters z_5887 iM_hasCourt rM_r rM_fresh rM_told rM_read rM_st rM_undone rM_kept iM_undos iM_images rM_fresher iM_fresherSize iM_scale iM_night rM_heardRow rM_cutRow iM_breaths iM_cutMany iM_allBreaths rM_trial rM_words iM_fewestBreaths iM_orderMany iM_orderSum iM_leastOrder rM_often iM_setMany iM_someOf iM_allOf iM_allWeight iM_enoughWeight iM_worthSum iM_firstRest iM_leastDrawn), (arI rM_tape kM_tape 900 fM_tape), (arI rM_letters kM_letters 8 f_5898)]) rfl
            have hFc := va_freeM hD hS hA _ hMs
            refine va_calli (va_runV (As := [.int 0, .int 99]) (rest := []) ⟨hx, hb, hml, hown, hts⟩ (tX7_number l dC dI _ oM iM_thrown rM_tape fM_tape kM_tape iM_taped iM_size x_5893 x_5894 x_5895 x_5896 x_5897 z_5888 z_5889 iM_trouble rM_letters f_5898 kM_letters z_5887 iM_hasCourt rM_r rM_fresh rM_told rM_read rM_st rM_undone rM_kept iM_undos iM_images rM_fresher iM_fresherSize iM_scale iM_night rM_heardRow rM_cutRow iM_breaths iM_cutMany iM_allBreaths rM_trial rM_words iM_fewestBreaths iM_orderMany iM_orderSum iM_leastOrder rM_often iM_setMany iM_someOf iM_allOf iM_allWeight iM_enoughWeight iM_worthSum iM_firstRest iM_leastDrawn 0 99 b_iM_taped b_iM_size b_x_5894 b_x_5897 b_z_5887 b_iM_hasCourt b_iM_undos b_iM_images b_iM_scale b_iM_breaths b_iM_cutMany e_x_5893_1 (om_b0b40937 kc_0 kc_99)) (cwV 2 hts (wd_V wd_446 wd_447 wd_448 wd_5 (wd_c wd_449)) rfl rfl rfl dv_yX7_number_2 ⟨Nat.le_of_ble_eq_true rfl, Nat.le_of_ble_eq_true rfl⟩) ⟨Pw.fb, recvX7 hK hP (q0 := 0) rfl, fun U hU hW => Pw.to (hP.ms _ hMs) (hD.ms _ hMs) (hK.ms [true, true, false, false] rfl) hE hS hFc hU hW⟩ rfl rfl hl.1 rfl (lv_room (Nat.le_of_ble_eq_true rfl)) dX7_unsureLine_110 ⟨Nat.le_of_ble_eq_true rfl, Nat.le_of_ble_eq_true rfl⟩) hS (fun q _ h => hFc q h) hFc (fun r u t H locs ht hvm hw hB hz1 hk1 hS => ?_)
            have hru9 := hw.2
            have hw := hw.1
            refine ex_9_8 hB (fun x_5899 x_5900 x_5901 x_5902 x_5903 x_5904 x_5905 x_5906 f_5907 b_x_5900 b_x_5903 b_x_5906 e_x_5899_0 e_x_5899_1 e_x_5899_2 e_x_5899_3 e_x_5899_4 hB => ?_)
            obtain ⟨hP, hD⟩ := Bw.goN (ws' := [(oc7 oM iM_thrown rM_tape iM_taped iM_size x_5899 x_5900 x_5901 x_5902 x_5903 x_5904 x_5905 iM_trouble rM_letters x_5906 iM_hasCourt rM_r rM_fresh rM_told rM_read rM_st rM_undone rM_kept iM_undos iM_images rM_fresher iM_fresherSize iM_scale iM_night rM_heardRow rM_cutRow iM_breaths iM_cutMany iM_allBreaths rM_trial rM_words iM_fewestBreaths iM_orderMany iM_orderSum iM_leastOrder rM_often iM_setMany iM_someOf iM_allOf iM_allWeight iM_enoughWeight iM_worthSum iM_firstRest iM_leastDrawn), (arI rM_tape kM_tape 900 fM_tape), (arI rM_letters kM_letters 8 f_5907), (arI rM_fresh kM_fresh 287 fM_fresh), (arI rM_read kM_read 90 fM_read)]) hB rfl ht hP hD _ hMs hk1 hFc rfl
            clear hz1 hk1 hvm ht hB hMs
            rw [← hru9] at e_x_5899_4
            obtain ⟨x_5908, rfl⟩ : ∃ z, z = r := ⟨_, rfl⟩
            have hG := hG.trans (un10_eq e_x_5899_4)
            have lx_5908 := hw.2
            have kl_0 := kc_0
            have kl_99 := kc_99
            clear e_x_5893_1
            clear e_x_5893_2
            refine lv_istore_n (lv' := [(3, .int x_5908), (2, .int x_5884), (1, .int x_5880), (0, .ref oM)]) hx hb dX7_unsureLine_113 rfl hl (by decide) rfl (fun ls hl => ?_)
            refine lv_aload_n hx hb dX7_unsureLine_114 rfl (lv_at hl 3 rfl) ?_
            refine va_get (D := (dC, dI)) (ci := 7) (v := .int x_5906) (C := RX7) (T := TX7) (N := 48) hx hb hts inX7 hown hK hP 0 rfl rfl 13 (by decide) (hts _ wd_380) (fun _ h9 => h9) rfl dX7_unsureLine_115 ?_
            refine lv_if_eq (tgt := 122) hx hb dX7_unsureLine_118 (by decide) (fun c_5909 => ?_) (fun c_5909 => ?_)
            · skip
              have hG := hG.trans (if_pos c_5909)
              have gc_5909 := ti_eq c_5909 rfl kc_0
              exact ((om_2e318dd7 gc_5885 hi1_n_5890 e_x_5899_2 gc_5909)).elim
            · skip
              have hG := hG.trans (if_neg c_5909)
              have gc_5909 := ti_ne c_5909 rfl kc_0
              replace gc_5909 : (-1) * x_5906.toInt + 1 ≤ 0 := om_e3003f79 gc_5909 b_x_5906.1
              exact wq_v hx hb hr 0 trivial (fun t ht hW => ⟨x_5899, x_5900, x_5901, x_5902, x_5903, x_5904, x_5905, x_5906, f_5907, fM_fresh, b_x_5900, b_x_5903, b_x_5906, (om_9348f5ae e_x_5893_0 e_x_5899_0), e_x_5899_1, (om_1fc3dec6 gc_5876 b_x_5906.1), (fun h9 => False.elim (om_a5fe015d gc_5909 h9.1)), r_P, hG, Bw.to hP hD hK ht hW⟩) hS dX7_unsureLine_121 hlocks
          · skip
            have hG := hG.trans (if_neg c_5892)
            have gc_5892 := ti_nle c_5892 rfl rfl
            refine lv_aload_n hx hb dX7_unsureLine_65 rfl (lv_at hl 3 rfl) ?_
            refine va_get (D := (dC, dI)) (ci := 7) (v := .int z_5887) (C := RX7) (T := TX7) (N := 48) hx hb hts inX7 hown hK hP 0 rfl rfl 13 (by decide) (hts _ wd_380) (fun _ h9 => h9) rfl dX7_unsureLine_66 ?_
            refine lv_if_ne (tgt := 96) hx hb dX7_unsureLine_69 (by decide) (fun c_5910 => ?_) (fun c_5910 => ?_)
            · skip
              have hG := hG.trans (if_neg c_5910)
              have gc_5910 := ti_ne c_5910 rfl kc_0
              replace gc_5910 : (-1) * z_5887.toInt + 1 ≤ 0 := om_e3003f79 gc_5910 b_z_5887.1
              obtain ⟨x_5911, ex_5911⟩ : ∃ z : Int32, z = z_5886 + Int32.ofInt 1 := ⟨_, rfl⟩
              have hG := hG.trans (lt_eq ex_5911)
              have vx_5911 : x_5911.toInt = z_5886.toInt + 1 := ti_add (y := 1) ex_5911 rfl kc_1 (om_4e4fce7e hi0_n_5890.1) (om_bae2951a hi0_n_5890.2)
              refine lv_iinc (v := x_5911) (lv' := [(3, .int x_5911), (2, .int x_5884), (1, .int x_5880), (0, .ref oM)]) hx hb dX7_unsureLine_96 hl (k := 0) rfl ex_5911.symm (by decide) rfl (fun ls hl => ?_)
              refine lv_goto (tgt := 55) hx hb dX7_unsureLine_99 (by decide) ?_
              exact ih_n_5890 x_5911 z_5887 z_5888 z_5889 _ _ _ b_z_5887 ⟨(om_83b90de5 hi0_n_5890.1 vx_5911), (om_8267bec5 pl_fM_fresh.2.2.2.1.2 cx_5891 gc_5892 vx_5911)⟩ hi1_n_5890 (ms_lt hm_n_5890 (om_ed22490e vx_5911) (om_e4be4046 pl_fM_fresh.2.2.2.1.2 cx_5891 gc_5892)) hG hP hD hS (lv_sub hl [0, 1, 2, 3] rfl)
            · skip
              have hG := hG.trans (if_pos c_5910)
              have gc_5910 := ti_eq c_5910 rfl kc_0
              exact ((om_30d40e72 gc_5885 hi1_n_5890 gc_5910)).elim
      exact key_n_5890 (((4 - (0 : Int32).toInt).toNat) + 1) 0 x_5883 x_5881 x_5882 _ _ _ b_x_5883 ⟨(om_b1de7dbe kc_0), (om_bebe011a kc_0)⟩ om_1cb5f934 (Nat.lt_add_one _) hG hP hD hS hl
    · skip
      have hG := hG.trans (if_pos c_5885)
      have gc_5885 := ti_eq c_5885 rfl kc_0
      have h_5912 : 1 ≤ (fM_fresh 1).toInt := e_x_5881_1 (om_02e9bb08 gc_5885)
      clear e_x_5881_1
      have h_5913 : x_5884.toInt < (fM_fresh 1).toInt := lx_5884.2.1 h_5912
      refine lv_aload_n hx hb dX7_unsureLine_32 rfl (lv_at hl 2 rfl) ?_
      refine va_get (D := (dC, dI)) (ci := 7) (v := .ref rM_fresh) (C := RX7) (T := TX7) (N := 48) hx hb hts inX7 hown hK hP 0 rfl rfl 16 (by decide) (hts _ wd_156) (fun _ h9 => h9) rfl dX7_unsureLine_33 ?_
      refine lv_bipush (v := 9) hx hb dX7_unsureLine_36 (by decide) ?_
      refine lv_iload_n hx hb dX7_unsureLine_38 rfl (lv_at hl 0 rfl) ?_
      refine lv_iadd hx hb dX7_unsureLine_39 ?_
      refine lv_topi (fun x_5914 ex_5914 => ?_)
      have hG := hG.trans (lt_eq ex_5914)
      have vx_5914 : x_5914.toInt = x_5884.toInt + 9 := om_296ce4dd (ti_add ex_5914 kc_9 rfl (om_090bbef4 lx_5884.1) (om_04280604 lx_5884.2.2))
      refine va_iald hx hb hK hP 3 2 rfl rfl (ti_in vx_5914 (om_edbe2e4c lx_5884.1) (om_60db842a lx_5884.2.2)) dX7_unsureLine_40 ?_
      refine lv_topi (fun x_5915 ex_5915 => ?_)
      have hG := hG.trans (lt_eq ex_5915)
      have kx_5915 : (fM_fresh x_5914.toNatClampNeg).toInt = x_5915.toInt := by rw [ex_5915]
      have cx_5915 : (fM_fresh (9 + x_5884.toNatClampNeg)).toInt = x_5915.toInt := by rw [show 9 + x_5884.toNatClampNeg = x_5914.toNatClampNeg from (om_32f1c3e7 (ti_cl (x := x_5884) rfl lx_5884.1) (ti_cl (x := x_5914) vx_5914 (om_edbe2e4c lx_5884.1)))]; exact kx_5915
      refine lv_if_eq (tgt := 53) hx hb dX7_unsureLine_41 (by decide) (fun c_5916 => ?_) (fun c_5916 => ?_)
      · skip
        have hG := hG.trans (if_pos c_5916)
        have gc_5916 := ti_eq c_5916 rfl kc_0
        refine lv_iconst (v := 0) hx hb dX7_unsureLine_53 (by decide) ?_
        refine lv_istore_n (lv' := [(3, .int 0), (2, .int x_5884), (1, .int x_5880), (0, .ref oM)]) hx hb dX7_unsureLine_54 rfl hl (by decide) rfl (fun ls hl => ?_)
        have hl := lv_sub hl (l' := [(3, .int 0), (2, .int x_5884), (1, .int x_5880), (0, .ref oM)]) [0, 1, 2, 3] rfl
        have key_n_5921 : ∀ (n_5921 : Nat) (z_5917 : Int32) (z_5918 : Int32) (z_5919 : Int32) (z_5920 : Int32) (H : Heap) (locs : List Loc) (ls : Array Slot), (0 ≤ z_5918.toInt ∧ z_5918.toInt ≤ 1) → (0 ≤ z_5917.toInt ∧ z_5917.toInt ≤ 4) → (x_5883.toInt ≤ z_5918.toInt) → (4 - z_5917.toInt).toNat < n_5921 → (PX7_unsureLine fM_tape iM_size iM_at iM_end iM_token iM_whole iM_nameSize iM_fault iM_place fM_letters iM_failed fM_fresh = HX7_unsureLine_0 fM_tape iM_size iM_at iM_end iM_token iM_whole iM_nameSize fM_letters fM_fresh x_5880 x_5884 n_5921 z_5917 z_5918 z_5919 z_5920) → va_P (dC, dI) vwCl [(oc7 oM iM_thrown rM_tape iM_taped iM_size iM_at iM_end iM_token iM_whole iM_nameSize z_5919 z_5920 iM_trouble rM_letters z_5918 iM_hasCourt rM_r rM_fresh rM_told rM_read rM_st rM_undone rM_kept iM_undos iM_images rM_fresher iM_fresherSize iM_scale iM_night rM_heardRow rM_cutRow iM_breaths iM_cutMany iM_allBreaths rM_trial rM_words iM_fewestBreaths iM_orderMany iM_orderSum iM_leastOrder rM_often iM_setMany iM_someOf iM_allOf iM_allWeight iM_enoughWeight iM_worthSum iM_firstRest iM_leastDrawn), (arI rM_tape kM_tape 900 fM_tape), (arI rM_letters kM_letters 8 fM_letters), (arI rM_fresh kM_fresh 287 fM_fresh), (arI rM_read kM_read 90 fM_read)] H → va_D A [(oc7 oM iM_thrown rM_tape iM_taped iM_size iM_at iM_end iM_token iM_whole iM_nameSize z_5919 z_5920 iM_trouble rM_letters z_5918 iM_hasCourt rM_r rM_fresh rM_told rM_read rM_st rM_undone rM_kept iM_undos iM_images rM_fresher iM_fresherSize iM_scale iM_night rM_heardRow rM_cutRow iM_breaths iM_cutMany iM_allBreaths rM_trial rM_words iM_fewestBreaths iM_orderMany iM_orderSum iM_leastOrder rM_often iM_setMany iM_someOf iM_allOf iM_allWeight iM_enoughWeight iM_worthSum iM_firstRest iM_leastDrawn), (arI rM_tape kM_tape 900 fM_tape), (arI rM_letters kM_letters 8 fM_letters), (arI rM_fresh kM_fresh 287 fM_fresh), (arI rM_read kM_read 90 fM_read)] → va_S A s.heap H locs → lv_has ls 4 [(3, .int z_5917), (2, .int x_5884), (1, .int x_5880), (0, .ref oM)] → W p l e (headSpec (Cond.code yX7_unsureLine cX7_unsureLine 4 none :: wG) ({ frames := 7, cells := 0, slots := 0, locals := 175 })).room s m ([.ref oM] : List Value).toArray below meth c H locs 0 0 (MQ below (va_Qv (fun (_ : Nat) => True) (fun (_ : Nat) (t : State) => ∃ (niM_at : Int32) (niM_end : Int32) (niM_token : Int32) (niM_whole : Int32) (niM_nameSize : Int32) (niM_fault : Int32) (niM_place : Int32) (niM_failed : Int32) (nfM_letters : Nat → Int32) (nfM_fresh : Nat → Int32), (0 ≤ niM_end.toInt ∧ niM_end.toInt ≤ 900) ∧ (0 ≤ niM_nameSize.toInt ∧ niM_nameSize.toInt ≤ 900) ∧ (0 ≤ niM_failed.toInt ∧ niM_failed.toInt ≤ 1) ∧ (iM_end.toInt ≤ niM_end.toInt) ∧ (ImpP (niM_token.toInt = 2) (niM_nameSize.toInt ≤ 8)) ∧ (iM_failed.toInt ≤ niM_failed.toInt) ∧ (ImpP (niM_failed.toInt ≤ 0 ∧ niM_token.toInt = 59 ) (iM_end.toInt + 1 ≤ niM_end.toInt)) ∧ (POk nfM_fresh fM_read) ∧ (PX7_unsureLine fM_tape iM_size iM_at iM_end iM_token iM_whole iM_nameSize iM_fault iM_place fM_letters iM_failed fM_fresh = (niM_at, niM_end, niM_token, niM_whole, niM_nameSize, niM_fault, niM_place, niM_failed, nfM_letters, nfM_fresh)) ∧ Bw dC dI A [(oc7 oM iM_thrown rM_tape iM_taped iM_size niM_at niM_end niM_token niM_whole niM_nameSize niM_fault niM_place iM_trouble rM_letters niM_failed iM_hasCourt rM_r rM_fresh rM_told rM_read rM_st rM_undone rM_kept iM_undos iM_images rM_fresher iM_fresherSize iM_scale iM_night rM_heardRow rM_cutRow iM_breaths iM_cutMany iM_allBreaths rM_trial rM_words iM_fewestBreaths iM_orderMany iM_orderSum iM_leastOrder rM_often iM_setMany iM_someOf iM_allOf iM_allWeight iM_enoughWeight iM_worthSum iM_firstRest iM_leastDrawn), (arI rM_tape kM_tape 900 fM_tape), (arI rM_letters kM_letters 8 nfM_letters), (arI rM_fresh kM_fresh 287 nfM_fresh), (arI rM_read kM_read 90 fM_read)] [(kM_tape, .int), (kM_letters, .int), (kM_fresh, .int), (kM_read, .int)] t) A) ([.ref oM] : List Value).toArray s 0 0 A) (F0 m 55 ls []) := by
          intro n_5921
          induction n_5921 with
          | zero => intro z_5917 z_5918 z_5919 z_5920 H locs ls b_z_5918 hi0_n_5921 hi1_n_5921 hm; exact absurd hm (Nat.not_lt_zero _)
          | succ n_5921 ih_n_5921 =>
            intro z_5917 z_5918 z_5919 z_5920 H locs ls b_z_5918 hi0_n_5921 hi1_n_5921 hm_n_5921 hG hP hD hS hl
            have hG := hG.trans (HX7_unsureLine_0_eq _ _ _ _ _ _ _ _ _ _ _ _ _ _ _ _)
            refine lv_iload_n hx hb dX7_unsureLine_55 rfl (lv_at hl 0 rfl) ?_
            refine lv_aload_n hx hb dX7_unsureLine_56 rfl (lv_at hl 3 rfl) ?_
            refine va_get (D := (dC, dI)) (ci := 7) (v := .ref rM_fresh) (C := RX7) (T := TX7) (N := 48) hx hb hts inX7 hown hK hP 0 rfl rfl 16 (by decide) (hts _ wd_156) (fun _ h9 => h9) rfl dX7_unsureLine_57 ?_
            refine lv_iconst (v := 3) hx hb dX7_unsureLine_60 (by decide) ?_
            refine va_iald hx hb hK hP 3 2 rfl rfl (by unfold vp_in; decide) dX7_unsureLine_61 ?_
            refine lv_topi (fun x_5922 ex_5922 => ?_)
            have hG := hG.trans (lt_eq ex_5922)
            have cx_5922 : (fM_fresh 3).toInt = x_5922.toInt := congrArg Int32.toInt (show fM_fresh 3 = x_5922 from ex_5922.symm)
            refine lv_icmp_ge (tgt := 102) hx hb dX7_unsureLine_62 (by decide) (fun c_5923 => ?_) (fun c_5923 => ?_)
            · skip
              have hG := hG.trans (if_pos c_5923)
              have gc_5923 := ti_le c_5923 rfl rfl
              refine lv_aload_n hx hb dX7_unsureLine_102 rfl (lv_at hl 3 rfl) ?_
              have hMs := ml_of hD [true, true, true, false, false] (wc := [(oc7 oM iM_thrown rM_tape iM_taped iM_size iM_at iM_end iM_token iM_whole iM_nameSize z_5919 z_5920 iM_trouble rM_letters z_5918 iM_hasCourt rM_r rM_fresh rM_told rM_read rM_st rM_undone rM_kept iM_undos iM_images rM_fresher iM_fresherSize iM_scale iM_night rM_heardRow rM_cutRow iM_breaths iM_cutMany iM_allBreaths rM_trial rM_words iM_fewestBreaths iM_orderMany iM_orderSum iM_leastOrder rM_often iM_setMany iM_someOf iM_allOf iM_allWeight iM_enoughWeight iM_worthSum iM_firstRest iM_leastDrawn), (arI rM_tape kM_tape 900 fM_tape), (arI rM_letters kM_letters 8 fM_letters)]) rfl
              have hFc := va_freeM hD hS hA _ hMs
              refine va_callv (va_runV (As := []) (rest := []) ⟨hx, hb, hml, hown, hts⟩ (tX7_pass l dC dI _ oM iM_thrown rM_tape fM_tape kM_tape iM_taped iM_size iM_at iM_end iM_token iM_whole iM_nameSize z_5919 z_5920 iM_trouble rM_letters fM_letters kM_letters z_5918 iM_hasCourt rM_r rM_fresh rM_told rM_read rM_st rM_undone rM_kept iM_undos iM_images rM_fresher iM_fresherSize iM_scale iM_night rM_heardRow rM_cutRow iM_breaths iM_cutMany iM_allBreaths rM_trial rM_words iM_fewestBreaths iM_orderMany iM_orderSum iM_leastOrder rM_often iM_setMany iM_someOf iM_allOf iM_allWeight iM_enoughWeight iM_worthSum iM_firstRest iM_leastDrawn b_iM_taped b_iM_size b_iM_end b_iM_nameSize b_z_5918 b_iM_hasCourt b_iM_undos b_iM_images b_iM_scale b_iM_breaths b_iM_cutMany r_T) (cwV 0 hts (wd_V wd_454 wd_455 wd_456 wd_5 (wd_c wd_457)) rfl rfl rfl dv_yX7_pass_0 ⟨Nat.le_of_ble_eq_true rfl, Nat.le_of_ble_eq_true rfl⟩) ⟨Pw.fb, recvX7 hK hP (q0 := 0) rfl, fun U hU hW => Pw.to (hP.ms _ hMs) (hD.ms _ hMs) (hK.ms [true, true, false, false] rfl) hE hS hFc hU hW⟩ rfl rfl hl.1 rfl (lv_room (Nat.le_of_ble_eq_true rfl)) dX7_unsureLine_103 ⟨Nat.le_of_ble_eq_true rfl, Nat.le_of_ble_eq_true rfl⟩) hS (fun q _ h => hFc q h) hFc (fun u t H locs ht hvm hw hB hz1 hk1 hS => ?_)
              refine ex_6_6 hB (fun x_5924 x_5925 x_5926 x_5927 x_5928 f_5929 b_x_5925 b_x_5928 e_x_5924_0 e_x_5924_1 e_x_5924_2 e_x_5924_3 hB => ?_)
              obtain ⟨hP, hD⟩ := Bw.goN (ws' := [(oc7 oM iM_thrown rM_tape iM_taped iM_size x_5924 x_5925 x_5926 x_5927 x_5928 z_5919 z_5920 iM_trouble rM_letters z_5918 iM_hasCourt rM_r rM_fresh rM_told rM_read rM_st rM_undone rM_kept iM_undos iM_images rM_fresher iM_fresherSize iM_scale iM_night rM_heardRow rM_cutRow iM_breaths iM_cutMany iM_allBreaths rM_trial rM_words iM_fewestBreaths iM_orderMany iM_orderSum iM_leastOrder rM_often iM_setMany iM_someOf iM_allOf iM_allWeight iM_enoughWeight iM_worthSum iM_firstRest iM_leastDrawn), (arI rM_tape kM_tape 900 fM_tape), (arI rM_letters kM_letters 8 f_5929), (arI rM_fresh kM_fresh 287 fM_fresh), (arI rM_read kM_read 90 fM_read)]) hB rfl ht hP hD _ hMs hk1 hFc rfl
              clear hz1 hk1 hvm ht hB hMs
              have hG := hG.trans (un6_eq e_x_5924_3)
              clear r_T
              refine lv_aload_n hx hb dX7_unsureLine_106 rfl (lv_at hl 3 rfl) ?_
              refine lv_iconst (v := 0) hx hb dX7_unsureLine_107 (by decide) ?_
              refine lv_bipush (v := 99) hx hb dX7_unsureLine_108 (by decide) ?_
              have hMs := ml_of hD [true, true, true, false, false] (wc := [(oc7 oM iM_thrown rM_tape iM_taped iM_size x_5924 x_5925 x_5926 x_5927 x_5928 z_5919 z_5920 iM_trouble rM_letters z_5918 iM_hasCourt rM_r rM_fresh rM_told rM_read rM_st rM_undone rM_kept iM_undos iM_images rM_fresher iM_fresherSize iM_scale iM_night rM_heardRow rM_cutRow iM_breaths iM_cutMany iM_allBreaths rM_trial rM_words iM_fewestBreaths iM_orderMany iM_orderSum iM_leastOrder rM_often iM_setMany iM_someOf iM_allOf iM_allWeight iM_enoughWeight iM_worthSum iM_firstRest iM_leastDrawn), (arI rM_tape kM_tape 900 fM_tape), (arI rM_letters kM_letters 8 f_5929)]) rfl
              have hFc := va_freeM hD hS hA _ hMs
              refine va_calli (va_runV (As := [.int 0, .int 99]) (rest := []) ⟨hx, hb, hml, hown, hts⟩ (tX7_number l dC dI _ oM iM_thrown rM_tape fM_tape kM_tape iM_taped iM_size x_5924 x_5925 x_5926 x_5927 x_5928 z_5919 z_5920 iM_trouble rM_letters f_5929 kM_letters z_5918 iM_hasCourt rM_r rM_fresh rM_told rM_read rM_st rM_undone rM_kept iM_undos iM_images rM_fresher iM_fresherSize iM_scale iM_night rM_heardRow rM_cutRow iM_breaths iM_cutMany iM_allBreaths rM_trial rM_words iM_fewestBreaths iM_orderMany iM_orderSum iM_leastOrder rM_often iM_setMany iM_someOf iM_allOf iM_allWeight iM_enoughWeight iM_worthSum iM_firstRest iM_leastDrawn 0 99 b_iM_taped b_iM_size b_x_5925 b_x_5928 b_z_5918 b_iM_hasCourt b_iM_undos b_iM_images b_iM_scale b_iM_breaths b_iM_cutMany e_x_5924_1 (om_b0b40937 kc_0 kc_99)) (cwV 2 hts (wd_V wd_446 wd_447 wd_448 wd_5 (wd_c wd_449)) rfl rfl rfl dv_yX7_number_2 ⟨Nat.le_of_ble_eq_true rfl, Nat.le_of_ble_eq_true rfl⟩) ⟨Pw.fb, recvX7 hK hP (q0 := 0) rfl, fun U hU hW => Pw.to (hP.ms _ hMs) (hD.ms _ hMs) (hK.ms [true, true, false, false] rfl) hE hS hFc hU hW⟩ rfl rfl hl.1 rfl (lv_room (Nat.le_of_ble_eq_true rfl)) dX7_unsureLine_110 ⟨Nat.le_of_ble_eq_true rfl, Nat.le_of_ble_eq_true rfl⟩) hS (fun q _ h => hFc q h) hFc (fun r u t H locs ht hvm hw hB hz1 hk1 hS => ?_)
              have hru9 := hw.2
              have hw := hw.1
              refine ex_9_8 hB (fun x_5930 x_5931 x_5932 x_5933 x_5934 x_5935 x_5936 x_5937 f_5938 b_x_5931 b_x_5934 b_x_5937 e_x_5930_0 e_x_5930_1 e_x_5930_2 e_x_5930_3 e_x_5930_4 hB => ?_)
              obtain ⟨hP, hD⟩ := Bw.goN (ws' := [(oc7 oM iM_thrown rM_tape iM_taped iM_size x_5930 x_5931 x_5932 x_5933 x_5934 x_5935 x_5936 iM_trouble rM_letters x_5937 iM_hasCourt rM_r rM_fresh rM_told rM_read rM_st rM_undone rM_kept iM_undos iM_images rM_fresher iM_fresherSize iM_scale iM_night rM_heardRow rM_cutRow iM_breaths iM_cutMany iM_allBreaths rM_trial rM_words iM_fewestBreaths iM_orderMany iM_orderSum iM_leastOrder rM_often iM_setMany iM_someOf iM_allOf iM_allWeight iM_enoughWeight iM_worthSum iM_firstRest iM_leastDrawn), (arI rM_tape kM_tape 900 fM_tape), (arI rM_letters kM_letters 8 f_5938), (arI rM_fresh kM_fresh 287 fM_fresh), (arI rM_read kM_read 90 fM_read)]) hB rfl ht hP hD _ hMs hk1 hFc rfl
              clear hz1 hk1 hvm ht hB hMs
              rw [← hru9] at e_x_5930_4
              obtain ⟨x_5939, rfl⟩ : ∃ z, z = r := ⟨_, rfl⟩
              have hG := hG.trans (un10_eq e_x_5930_4)
              have lx_5939 := hw.2
              have kl_0 := kc_0
              have kl_99 := kc_99
              clear e_x_5924_1
              clear e_x_5924_2
              refine lv_istore_n (lv' := [(3, .int x_5939), (2, .int x_5884), (1, .int x_5880), (0, .ref oM)]) hx hb dX7_unsureLine_113 rfl hl (by decide) rfl (fun ls hl => ?_)
              refine lv_aload_n hx hb dX7_unsureLine_114 rfl (lv_at hl 3 rfl) ?_
              refine va_get (D := (dC, dI)) (ci := 7) (v := .int x_5937) (C := RX7) (T := TX7) (N := 48) hx hb hts inX7 hown hK hP 0 rfl rfl 13 (by decide) (hts _ wd_380) (fun _ h9 => h9) rfl dX7_unsureLine_115 ?_
              refine lv_if_eq (tgt := 122) hx hb dX7_unsureLine_118 (by decide) (fun c_5940 => ?_) (fun c_5940 => ?_)
              · skip
                have hG := hG.trans (if_pos c_5940)
                have gc_5940 := ti_eq c_5940 rfl kc_0
                refine lv_aload_n hx hb dX7_unsureLine_122 rfl (lv_at hl 3 rfl) ?_
                refine va_get (D := (dC, dI)) (ci := 7) (v := .ref rM_fresh) (C := RX7) (T := TX7) (N := 48) hx hb hts inX7 hown hK hP 0 rfl rfl 16 (by decide) (hts _ wd_156) (fun _ h9 => h9) rfl dX7_unsureLine_123 ?_
                refine lv_iload_n hx hb dX7_unsureLine_126 rfl (lv_at hl 2 rfl) ?_
                refine lv_iload_n hx hb dX7_unsureLine_127 rfl (lv_at hl 1 rfl) ?_
                refine va_iast hx hb hK hP hD hS 3 2 rfl rfl (ti_in vx_5880 (om_e01513d4 pl_fM_fresh.2.2.2.1.1 cx_5878) (om_b23ddd3e pl_fM_fresh.2.2.2.1.2 cx_5878)) dX7_unsureLine_128 (fun H locs hP hD hS => ?_)
                obtain ⟨f_5941, ef_5941⟩ : ∃ g : Nat → Int32, g = upd fM_fresh x_5880.toNatClampNeg x_5884 := ⟨_, rfl⟩
                rw [← ef_5941] at hP hD
                have hG := hG.trans (lt_eq ef_5941)
                obtain ⟨hP, hD⟩ := wl2 (ws' := [(oc7 oM iM_thrown rM_tape iM_taped iM_size x_5930 x_5931 x_5932 x_5933 x_5934 x_5935 x_5936 iM_trouble rM_letters x_5937 iM_hasCourt rM_r rM_fresh rM_told rM_read rM_st rM_undone rM_kept iM_undos iM_images rM_fresher iM_fresherSize iM_scale iM_night rM_heardRow rM_cutRow iM_breaths iM_cutMany iM_allBreaths rM_trial rM_words iM_fewestBreaths iM_orderMany iM_orderSum iM_leastOrder rM_often iM_setMany iM_someOf iM_allOf iM_allWeight iM_enoughWeight iM_worthSum iM_firstRest iM_leastDrawn), (arI rM_tape kM_tape 900 fM_tape), (arI rM_letters kM_letters 8 f_5938), (arI rM_fresh kM_fresh 287 f_5941), (arI rM_read kM_read 90 fM_read)]) hP hD rfl
                have pk_f_5941 : POk f_5941 fM_read := POk.put r_P ef_5941 (Or.inr (Or.inr (Or.inr (Or.inr (Or.inr (Or.inr ((by have q9 := ti_cl (x := x_5880) vx_5880 (om_e01513d4 pl_fM_fresh.2.2.2.1.1 cx_5878); omega))))))))
                have pl_f_5941 := pk_f_5941.lins
                have o3_f_5941 : (f_5941 3).toInt = (fM_fresh 3).toInt := put_at ef_5941 (Nat.ne_of_lt (om_a84bc89b (ti_cl (x := x_5880) vx_5880 (om_e01513d4 pl_fM_fresh.2.2.2.1.1 cx_5878)) pl_fM_fresh.2.2.2.1.1 cx_5878))
                refine lv_aload_n hx hb dX7_unsureLine_129 rfl (lv_at hl 3 rfl) ?_
                refine va_get (D := (dC, dI)) (ci := 7) (v := .ref rM_fresh) (C := RX7) (T := TX7) (N := 48) hx hb hts inX7 hown hK hP 0 rfl rfl 16 (by decide) (hts _ wd_156) (fun _ h9 => h9) rfl dX7_unsureLine_130 ?_
                refine lv_iload_n hx hb dX7_unsureLine_133 rfl (lv_at hl 2 rfl) ?_
                refine lv_iconst (v := 1) hx hb dX7_unsureLine_134 (by decide) ?_
                refine lv_iadd hx hb dX7_unsureLine_135 ?_
                refine lv_topi (fun x_5942 ex_5942 => ?_)
                have hG := hG.trans (lt_eq ex_5942)
                have vx_5942 : x_5942.toInt = 2 * x_5878.toInt + 118 := om_c314a240 (ti_add ex_5942 vx_5880 kc_1 (om_8d6fa258 pl_fM_fresh.2.2.2.1.1 cx_5878) (om_63106487 pl_fM_fresh.2.2.2.1.2 cx_5878))
                refine lv_iload_n hx hb dX7_unsureLine_136 rfl (lv_at hl 0 rfl) ?_
                refine va_iast hx hb hK hP hD hS 3 2 rfl rfl (ti_in vx_5942 (om_36428d7e pl_fM_fresh.2.2.2.1.1 cx_5878) (om_dd31f364 pl_fM_fresh.2.2.2.1.2 cx_5878)) dX7_unsureLine_137 (fun H locs hP hD hS => ?_)
                obtain ⟨f_5943, ef_5943⟩ : ∃ g : Nat → Int32, g = upd f_5941 x_5942.toNatClampNeg x_5939 := ⟨_, rfl⟩
                rw [← ef_5943] at hP hD
                have hG := hG.trans (lt_eq ef_5943)
                obtain ⟨hP, hD⟩ := wl2 (ws' := [(oc7 oM iM_thrown rM_tape iM_taped iM_size x_5930 x_5931 x_5932 x_5933 x_5934 x_5935 x_5936 iM_trouble rM_letters x_5937 iM_hasCourt rM_r rM_fresh rM_told rM_read rM_st rM_undone rM_kept iM_undos iM_images rM_fresher iM_fresherSize iM_scale iM_night rM_heardRow rM_cutRow iM_breaths iM_cutMany iM_allBreaths rM_trial rM_words iM_fewestBreaths iM_orderMany iM_orderSum iM_leastOrder rM_often iM_setMany iM_someOf iM_allOf iM_allWeight iM_enoughWeight iM_worthSum iM_firstRest iM_leastDrawn), (arI rM_tape kM_tape 900 fM_tape), (arI rM_letters kM_letters 8 f_5938), (arI rM_fresh kM_fresh 287 f_5943), (arI rM_read kM_read 90 fM_read)]) hP hD rfl
                have pk_f_5943 : POk f_5943 fM_read := POk.put pk_f_5941 ef_5943 (Or.inr (Or.inr (Or.inr (Or.inr (Or.inr (Or.inr ((by have q9 := ti_cl (x := x_5942) vx_5942 (om_36428d7e pl_fM_fresh.2.2.2.1.1 cx_5878); omega))))))))
                have pl_f_5943 := pk_f_5943.lins
                have o3_f_5943 : (f_5943 3).toInt = (f_5941 3).toInt := put_at ef_5943 (Nat.ne_of_lt (om_44c915d2 (ti_cl (x := x_5942) vx_5942 (om_36428d7e pl_fM_fresh.2.2.2.1.1 cx_5878)) pl_fM_fresh.2.2.2.1.1 cx_5878))
                refine lv_aload_n hx hb dX7_unsureLine_138 rfl (lv_at hl 3 rfl) ?_
                refine va_get (D := (dC, dI)) (ci := 7) (v := .ref rM_fresh) (C := RX7) (T := TX7) (N := 48) hx hb hts inX7 hown hK hP 0 rfl rfl 16 (by decide) (hts _ wd_156) (fun _ h9 => h9) rfl dX7_unsureLine_139 ?_
                refine lv_iconst (v := 3) hx hb dX7_unsureLine_142 (by decide) ?_
                refine lv_dup2_11 hx hb dX7_unsureLine_143 rfl rfl ?_
                refine va_iald hx hb hK hP 3 2 rfl rfl (by unfold vp_in; decide) dX7_unsureLine_144 ?_
                refine lv_topi (fun x_5944 ex_5944 => ?_)
                have hG := hG.trans (lt_eq ex_5944)
                have cx_5944 : (f_5943 3).toInt = x_5944.toInt := congrArg Int32.toInt (show f_5943 3 = x_5944 from ex_5944.symm)
                refine lv_iconst (v := 1) hx hb dX7_unsureLine_145 (by decide) ?_
                refine lv_iadd hx hb dX7_unsureLine_146 ?_
                refine lv_topi (fun x_5945 ex_5945 => ?_)
                have hG := hG.trans (lt_eq ex_5945)
                have vx_5945 : x_5945.toInt = x_5944.toInt + 1 := ti_add ex_5945 rfl kc_1 (om_c68f1f10 pl_f_5943.2.2.2.1.1 cx_5944) (om_5922c878 pl_f_5943.2.2.2.1.2 cx_5944)
                refine va_iast hx hb hK hP hD hS 3 2 rfl rfl (by unfold vp_in; decide) dX7_unsureLine_147 (fun H locs hP hD hS => ?_)
                obtain ⟨f_5946, ef_5946⟩ : ∃ g : Nat → Int32, g = upd f_5943 (3 : Int32).toNatClampNeg x_5945 := ⟨_, rfl⟩
                rw [← ef_5946] at hP hD
                have hG := hG.trans (lt_eq ef_5946)
                obtain ⟨hP, hD⟩ := wl2 (ws' := [(oc7 oM iM_thrown rM_tape iM_taped iM_size x_5930 x_5931 x_5932 x_5933 x_5934 x_5935 x_5936 iM_trouble rM_letters x_5937 iM_hasCourt rM_r rM_fresh rM_told rM_read rM_st rM_undone rM_kept iM_undos iM_images rM_fresher iM_fresherSize iM_scale iM_night rM_heardRow rM_cutRow iM_breaths iM_cutMany iM_allBreaths rM_trial rM_words iM_fewestBreaths iM_orderMany iM_orderSum iM_leastOrder rM_often iM_setMany iM_someOf iM_allOf iM_allWeight iM_enoughWeight iM_worthSum iM_firstRest iM_leastDrawn), (arI rM_tape kM_tape 900 fM_tape), (arI rM_letters kM_letters 8 f_5938), (arI rM_fresh kM_fresh 287 f_5946), (arI rM_read kM_read 90 fM_read)]) hP hD rfl
                have pk_f_5946 : POk f_5946 fM_read := POk.put pk_f_5943 ef_5946 (Or.inr (Or.inr (Or.inr (Or.inr (Or.inl (by have q9 : ((3 : Int32).toNatClampNeg : Nat) = 3 := rfl; omega))))))
                have pl_f_5946 := pk_f_5946.lins
                exact wq_v hx hb hr 0 trivial (fun t ht hW => ⟨x_5930, x_5931, x_5932, x_5933, x_5934, x_5935, x_5936, x_5937, f_5938, f_5946, b_x_5931, b_x_5934, b_x_5937, (om_9348f5ae e_x_5924_0 e_x_5930_0), e_x_5930_1, (om_1fc3dec6 gc_5876 b_x_5937.1), (fun h9 => (om_7ed234da e_x_5924_0 (e_x_5930_3 ⟨(om_02e9bb08 gc_5940), h9.2⟩))), pk_f_5946, hG, Bw.to hP hD hK ht hW⟩) hS dX7_unsureLine_148 hlocks
              · skip
                have hG := hG.trans (if_neg c_5940)
                have gc_5940 := ti_ne c_5940 rfl kc_0
                replace gc_5940 : (-1) * x_5937.toInt + 1 ≤ 0 := om_e3003f79 gc_5940 b_x_5937.1
                exact wq_v hx hb hr 0 trivial (fun t ht hW => ⟨x_5930, x_5931, x_5932, x_5933, x_5934, x_5935, x_5936, x_5937, f_5938, fM_fresh, b_x_5931, b_x_5934, b_x_5937, (om_9348f5ae e_x_5924_0 e_x_5930_0), e_x_5930_1, (om_1fc3dec6 gc_5876 b_x_5937.1), (fun h9 => False.elim (om_a5fe015d gc_5940 h9.1)), r_P, hG, Bw.to hP hD hK ht hW⟩) hS dX7_unsureLine_121 hlocks
            · skip
              have hG := hG.trans (if_neg c_5923)
              have gc_5923 := ti_nle c_5923 rfl rfl
              refine lv_aload_n hx hb dX7_unsureLine_65 rfl (lv_at hl 3 rfl) ?_
              refine va_get (D := (dC, dI)) (ci := 7) (v := .int z_5918) (C := RX7) (T := TX7) (N := 48) hx hb hts inX7 hown hK hP 0 rfl rfl 13 (by decide) (hts _ wd_380) (fun _ h9 => h9) rfl dX7_unsureLine_66 ?_
              refine lv_if_ne (tgt := 96) hx hb dX7_unsureLine_69 (by decide) (fun c_5947 => ?_) (fun c_5947 => ?_)
              · skip
                have hG := hG.trans (if_neg c_5947)
                have gc_5947 := ti_ne c_5947 rfl kc_0
                replace gc_5947 : (-1) * z_5918.toInt + 1 ≤ 0 := om_e3003f79 gc_5947 b_z_5918.1
                obtain ⟨x_5948, ex_5948⟩ : ∃ z : Int32, z = z_5917 + Int32.ofInt 1 := ⟨_, rfl⟩
                have hG := hG.trans (lt_eq ex_5948)
                have vx_5948 : x_5948.toInt = z_5917.toInt + 1 := ti_add (y := 1) ex_5948 rfl kc_1 (om_4e4fce7e hi0_n_5921.1) (om_bae2951a hi0_n_5921.2)
                refine lv_iinc (v := x_5948) (lv' := [(3, .int x_5948), (2, .int x_5884), (1, .int x_5880), (0, .ref oM)]) hx hb dX7_unsureLine_96 hl (k := 0) rfl ex_5948.symm (by decide) rfl (fun ls hl => ?_)
                refine lv_goto (tgt := 55) hx hb dX7_unsureLine_99 (by decide) ?_
                exact ih_n_5921 x_5948 z_5918 z_5919 z_5920 _ _ _ b_z_5918 ⟨(om_83b90de5 hi0_n_5921.1 vx_5948), (om_8267bec5 pl_fM_fresh.2.2.2.1.2 cx_5922 gc_5923 vx_5948)⟩ (om_1fc3dec6 gc_5885 b_z_5918.1) (ms_lt hm_n_5921 (om_ed22490e vx_5948) (om_e4be4046 pl_fM_fresh.2.2.2.1.2 cx_5922 gc_5923)) hG hP hD hS (lv_sub hl [0, 1, 2, 3] rfl)
              · skip
                have hG := hG.trans (if_pos c_5947)
                have gc_5947 := ti_eq c_5947 rfl kc_0
                refine lv_aload_n hx hb dX7_unsureLine_72 rfl (lv_at hl 3 rfl) ?_
                refine va_get (D := (dC, dI)) (ci := 7) (v := .ref rM_fresh) (C := RX7) (T := TX7) (N := 48) hx hb hts inX7 hown hK hP 0 rfl rfl 16 (by decide) (hts _ wd_156) (fun _ h9 => h9) rfl dX7_unsureLine_73 ?_
                refine lv_bipush (v := 117) hx hb dX7_unsureLine_76 (by decide) ?_
                refine lv_iconst (v := 2) hx hb dX7_unsureLine_78 (by decide) ?_
                refine lv_iload_n hx hb dX7_unsureLine_79 rfl (lv_at hl 0 rfl) ?_
                refine lv_imul hx hb dX7_unsureLine_80 ?_
                refine lv_topi (fun x_5949 ex_5949 => ?_)
                have hG := hG.trans (lt_eq ex_5949)
                have vx_5949 : x_5949.toInt = 2 * z_5917.toInt := ti_mul ex_5949 kc_2 rfl (om_c5b3d97d hi0_n_5921.1) (om_e31e6d0e hi0_n_5921.2)
                refine lv_iadd hx hb dX7_unsureLine_81 ?_
                refine lv_topi (fun x_5950 ex_5950 => ?_)
                have hG := hG.trans (lt_eq ex_5950)
                have vx_5950 : x_5950.toInt = 2 * z_5917.toInt + 117 := om_67044d60 (ti_add ex_5950 kc_117 vx_5949 (om_6bb57472 hi0_n_5921.1) (om_12bf95c9 hi0_n_5921.2))
                refine va_iald hx hb hK hP 3 2 rfl rfl (ti_in vx_5950 (om_c8571833 hi0_n_5921.1) (om_f21b86dc hi0_n_5921.2)) dX7_unsureLine_82 ?_
                refine lv_topi (fun x_5951 ex_5951 => ?_)
                have hG := hG.trans (lt_eq ex_5951)
                have kx_5951 : (fM_fresh x_5950.toNatClampNeg).toInt = x_5951.toInt := by rw [ex_5951]
                have cx_5951 : (fM_fresh (117 + 2 * z_5917.toNatClampNeg)).toInt = x_5951.toInt := by rw [show 117 + 2 * z_5917.toNatClampNeg = x_5950.toNatClampNeg from (om_dbb1b72e (ti_cl (x := z_5917) rfl hi0_n_5921.1) (ti_cl (x := x_5950) vx_5950 (om_c8571833 hi0_n_5921.1)))]; exact kx_5951
                refine lv_iload_n hx hb dX7_unsureLine_83 rfl (lv_at hl 1 rfl) ?_
                refine lv_icmp_ne (tgt := 96) hx hb dX7_unsureLine_84 (by decide) (fun c_5952 => ?_) (fun c_5952 => ?_)
                · skip
                  have hG := hG.trans (if_neg c_5952)
                  have gc_5952 := ti_ne c_5952 rfl rfl
                  clear gc_5952
                  obtain ⟨x_5953, ex_5953⟩ : ∃ z : Int32, z = z_5917 + Int32.ofInt 1 := ⟨_, rfl⟩
                  have hG := hG.trans (lt_eq ex_5953)
                  have vx_5953 : x_5953.toInt = z_5917.toInt + 1 := ti_add (y := 1) ex_5953 rfl kc_1 (om_4e4fce7e hi0_n_5921.1) (om_bae2951a hi0_n_5921.2)
                  refine lv_iinc (v := x_5953) (lv' := [(3, .int x_5953), (2, .int x_5884), (1, .int x_5880), (0, .ref oM)]) hx hb dX7_unsureLine_96 hl (k := 0) rfl ex_5953.symm (by decide) rfl (fun ls hl => ?_)
                  refine lv_goto (tgt := 55) hx hb dX7_unsureLine_99 (by decide) ?_
                  exact ih_n_5921 x_5953 z_5918 z_5919 z_5920 _ _ _ b_z_5918 ⟨(om_83b90de5 hi0_n_5921.1 vx_5953), (om_8267bec5 pl_fM_fresh.2.2.2.1.2 cx_5922 gc_5923 vx_5953)⟩ (om_1fc3dec6 gc_5885 b_z_5918.1) (ms_lt hm_n_5921 (om_ed22490e vx_5953) (om_e4be4046 pl_fM_fresh.2.2.2.1.2 cx_5922 gc_5923)) hG hP hD hS (lv_sub hl [0, 1, 2, 3] rfl)
                · skip
                  have hG := hG.trans (if_pos c_5952)
                  have gc_5952 := ti_eq c_5952 rfl rfl
                  refine lv_aload_n hx hb dX7_unsureLine_87 rfl (lv_at hl 3 rfl) ?_
                  refine lv_iconst (v := 3) hx hb dX7_unsureLine_88 (by decide) ?_
                  refine lv_aload_n hx hb dX7_unsureLine_89 rfl (lv_at hl 3 rfl) ?_
                  refine va_get (D := (dC, dI)) (ci := 7) (v := .int iM_at) (C := RX7) (T := TX7) (N := 48) hx hb hts inX7 hown hK hP 0 rfl rfl 4 (by decide) (hts _ wd_384) (fun _ h9 => h9) rfl dX7_unsureLine_90 ?_
                  have hMs := ml_of hD [true, false, false, false, false] (wc := [(oc7 oM iM_thrown rM_tape iM_taped iM_size iM_at iM_end iM_token iM_whole iM_nameSize z_5919 z_5920 iM_trouble rM_letters z_5918 iM_hasCourt rM_r rM_fresh rM_told rM_read rM_st rM_undone rM_kept iM_undos iM_images rM_fresher iM_fresherSize iM_scale iM_night rM_heardRow rM_cutRow iM_breaths iM_cutMany iM_allBreaths rM_trial rM_words iM_fewestBreaths iM_orderMany iM_orderSum iM_leastOrder rM_often iM_setMany iM_someOf iM_allOf iM_allWeight iM_enoughWeight iM_worthSum iM_firstRest iM_leastDrawn)]) rfl
                  have hFc := va_freeM hD hS hA _ hMs
                  refine va_callv (va_runV (As := [.int 3, .int iM_at]) (rest := []) ⟨hx, hb, hml, hown, hts⟩ (tX7_wrong l dC dI _ oM iM_thrown rM_tape iM_taped iM_size iM_at iM_end iM_token iM_whole iM_nameSize z_5919 z_5920 iM_trouble rM_letters z_5918 iM_hasCourt rM_r rM_fresh rM_told rM_read rM_st rM_undone rM_kept iM_undos iM_images rM_fresher iM_fresherSize iM_scale iM_night rM_heardRow rM_cutRow iM_breaths iM_cutMany iM_allBreaths rM_trial rM_words iM_fewestBreaths iM_orderMany iM_orderSum iM_leastOrder rM_often iM_setMany iM_someOf iM_allOf iM_allWeight iM_enoughWeight iM_worthSum iM_firstRest iM_leastDrawn 3 iM_at b_iM_taped b_iM_size b_iM_end b_iM_nameSize b_z_5918 b_iM_hasCourt b_iM_undos b_iM_images b_iM_scale b_iM_breaths b_iM_cutMany r_T) (cwV 2 hts (wd_V wd_430 wd_431 wd_432 wd_5 (wd_c wd_433)) rfl rfl rfl dv_yX7_wrong_2 ⟨Nat.le_of_ble_eq_true rfl, Nat.le_of_ble_eq_true rfl⟩) ⟨Pw.fb, recvX7 hK hP (q0 := 0) rfl, fun U hU hW => Pw.to (hP.ms _ hMs) (hD.ms _ hMs) (hK.ms [false, false, false, false] rfl) hE hS hFc hU hW⟩ rfl rfl hl.1 rfl (lv_room (Nat.le_of_ble_eq_true rfl)) dX7_unsureLine_93 ⟨Nat.le_of_ble_eq_true rfl, Nat.le_of_ble_eq_true rfl⟩) hS (fun q _ h => hFc q h) hFc (fun u t H locs ht hvm hw hB hz1 hk1 hS => ?_)
                  refine ex_3_3 hB (fun x_5954 x_5955 x_5956 b_x_5956 e_x_5954_0 e_x_5954_1 hB => ?_)
                  obtain ⟨hP, hD⟩ := Bw.goN (ws' := [(oc7 oM iM_thrown rM_tape iM_taped iM_size iM_at iM_end iM_token iM_whole iM_nameSize x_5954 x_5955 iM_trouble rM_letters x_5956 iM_hasCourt rM_r rM_fresh rM_told rM_read rM_st rM_undone rM_kept iM_undos iM_images rM_fresher iM_fresherSize iM_scale iM_night rM_heardRow rM_cutRow iM_breaths iM_cutMany iM_allBreaths rM_trial rM_words iM_fewestBreaths iM_orderMany iM_orderSum iM_leastOrder rM_often iM_setMany iM_someOf iM_allOf iM_allWeight iM_enoughWeight iM_worthSum iM_firstRest iM_leastDrawn), (arI rM_tape kM_tape 900 fM_tape), (arI rM_letters kM_letters 8 fM_letters), (arI rM_fresh kM_fresh 287 fM_fresh), (arI rM_read kM_read 90 fM_read)]) hB rfl ht hP hD _ hMs hk1 hFc rfl
                  clear hz1 hk1 hvm ht hB hMs
                  have hG := hG.trans (un3_eq e_x_5954_1)
                  obtain ⟨x_5957, ex_5957⟩ : ∃ z : Int32, z = z_5917 + Int32.ofInt 1 := ⟨_, rfl⟩
                  have hG := hG.trans (lt_eq ex_5957)
                  have vx_5957 : x_5957.toInt = z_5917.toInt + 1 := ti_add (y := 1) ex_5957 rfl kc_1 (om_4e4fce7e hi0_n_5921.1) (om_bae2951a hi0_n_5921.2)
                  refine lv_iinc (v := x_5957) (lv' := [(3, .int x_5957), (2, .int x_5884), (1, .int x_5880), (0, .ref oM)]) hx hb dX7_unsureLine_96 hl (k := 0) rfl ex_5957.symm (by decide) rfl (fun ls hl => ?_)
                  refine lv_goto (tgt := 55) hx hb dX7_unsureLine_99 (by decide) ?_
                  exact ih_n_5921 x_5957 x_5956 x_5954 x_5955 _ _ _ b_x_5956 ⟨(om_83b90de5 hi0_n_5921.1 vx_5957), (om_8267bec5 pl_fM_fresh.2.2.2.1.2 cx_5922 gc_5923 vx_5957)⟩ (om_1fc3dec6 gc_5885 b_x_5956.1) (ms_lt hm_n_5921 (om_ed22490e vx_5957) (om_e4be4046 pl_fM_fresh.2.2.2.1.2 cx_5922 gc_5923)) hG hP hD hS (lv_sub hl [0, 1, 2, 3] rfl)
        exact key_n_5921 (((4 - (0 : Int32).toInt).toNat) + 1) 0 x_5883 x_5881 x_5882 _ _ _ b_x_5883 ⟨(om_b1de7dbe kc_0), (om_bebe011a kc_0)⟩ om_1cb5f934 (Nat.lt_add_one _) hG hP hD hS hl
      · skip
        have hG := hG.trans (if_neg c_5916)
        have gc_5916 := ti_ne c_5916 rfl kc_0
        clear gc_5916
        refine lv_aload_n hx hb dX7_unsureLine_44 rfl (lv_at hl 2 rfl) ?_
        refine lv_iconst (v := 2) hx hb dX7_unsureLine_45 (by decide) ?_
        refine lv_aload_n hx hb dX7_unsureLine_46 rfl (lv_at hl 2 rfl) ?_
        refine va_get (D := (dC, dI)) (ci := 7) (v := .int iM_at) (C := RX7) (T := TX7) (N := 48) hx hb hts inX7 hown hK hP 0 rfl rfl 4 (by decide) (hts _ wd_384) (fun _ h9 => h9) rfl dX7_unsureLine_47 ?_
        have hMs := ml_of hD [true, false, false, false, false] (wc := [(oc7 oM iM_thrown rM_tape iM_taped iM_size iM_at iM_end iM_token iM_whole iM_nameSize x_5881 x_5882 iM_trouble rM_letters x_5883 iM_hasCourt rM_r rM_fresh rM_told rM_read rM_st rM_undone rM_kept iM_undos iM_images rM_fresher iM_fresherSize iM_scale iM_night rM_heardRow rM_cutRow iM_breaths iM_cutMany iM_allBreaths rM_trial rM_words iM_fewestBreaths iM_orderMany iM_orderSum iM_leastOrder rM_often iM_setMany iM_someOf iM_allOf iM_allWeight iM_enoughWeight iM_worthSum iM_firstRest iM_leastDrawn)]) rfl
        have hFc := va_freeM hD hS hA _ hMs
        refine va_callv (va_runV (As := [.int 2, .int iM_at]) (rest := []) ⟨hx, hb, hml, hown, hts⟩ (tX7_wrong l dC dI _ oM iM_thrown rM_tape iM_taped iM_size iM_at iM_end iM_token iM_whole iM_nameSize x_5881 x_5882 iM_trouble rM_letters x_5883 iM_hasCourt rM_r rM_fresh rM_told rM_read rM_st rM_undone rM_kept iM_undos iM_images rM_fresher iM_fresherSize iM_scale iM_night rM_heardRow rM_cutRow iM_breaths iM_cutMany iM_allBreaths rM_trial rM_words iM_fewestBreaths iM_orderMany iM_orderSum iM_leastOrder rM_often iM_setMany iM_someOf iM_allOf iM_allWeight iM_enoughWeight iM_worthSum iM_firstRest iM_leastDrawn 2 iM_at b_iM_taped b_iM_size b_iM_end b_iM_nameSize b_x_5883 b_iM_hasCourt b_iM_undos b_iM_images b_iM_scale b_iM_breaths b_iM_cutMany r_T) (cwV 2 hts (wd_V wd_430 wd_431 wd_432 wd_5 (wd_c wd_433)) rfl rfl rfl dv_yX7_wrong_2 ⟨Nat.le_of_ble_eq_true rfl, Nat.le_of_ble_eq_true rfl⟩) ⟨Pw.fb, recvX7 hK hP (q0 := 0) rfl, fun U hU hW => Pw.to (hP.ms _ hMs) (hD.ms _ hMs) (hK.ms [false, false, false, false] rfl) hE hS hFc hU hW⟩ rfl rfl hl.1 rfl (lv_room (Nat.le_of_ble_eq_true rfl)) dX7_unsureLine_50 ⟨Nat.le_of_ble_eq_true rfl, Nat.le_of_ble_eq_true rfl⟩) hS (fun q _ h => hFc q h) hFc (fun u t H locs ht hvm hw hB hz1 hk1 hS => ?_)
        refine ex_3_3 hB (fun x_5958 x_5959 x_5960 b_x_5960 e_x_5958_0 e_x_5958_1 hB => ?_)
        obtain ⟨hP, hD⟩ := Bw.goN (ws' := [(oc7 oM iM_thrown rM_tape iM_taped iM_size iM_at iM_end iM_token iM_whole iM_nameSize x_5958 x_5959 iM_trouble rM_letters x_5960 iM_hasCourt rM_r rM_fresh rM_told rM_read rM_st rM_undone rM_kept iM_undos iM_images rM_fresher iM_fresherSize iM_scale iM_night rM_heardRow rM_cutRow iM_breaths iM_cutMany iM_allBreaths rM_trial rM_words iM_fewestBreaths iM_orderMany iM_orderSum iM_leastOrder rM_often iM_setMany iM_someOf iM_allOf iM_allWeight iM_enoughWeight iM_worthSum iM_firstRest iM_leastDrawn), (arI rM_tape kM_tape 900 fM_tape), (arI rM_letters kM_letters 8 fM_letters), (arI rM_fresh kM_fresh 287 fM_fresh), (arI rM_read kM_read 90 fM_read)]) hB rfl ht hP hD _ hMs hk1 hFc rfl
        clear hz1 hk1 hvm ht hB hMs
        have hG := hG.trans (un3_eq e_x_5958_1)
        refine lv_iconst (v := 0) hx hb dX7_unsureLine_53 (by decide) ?_
        refine lv_istore_n (lv' := [(3, .int 0), (2, .int x_5884), (1, .int x_5880), (0, .ref oM)]) hx hb dX7_unsureLine_54 rfl hl (by decide) rfl (fun ls hl => ?_)
        have hl := lv_sub hl (l' := [(3, .int 0), (2, .int x_5884), (1, .int x_5880), (0, .ref oM)]) [0, 1, 2, 3] rfl
        have key_n_5965 : ∀ (n_5965 : Nat) (z_5961 : Int32) (z_5962 : Int32) (z_5963 : Int32) (z_5964 : Int32) (H : Heap) (locs : List Loc) (ls : Array Slot), (0 ≤ z_5962.toInt ∧ z_5962.toInt ≤ 1) → (0 ≤ z_5961.toInt ∧ z_5961.toInt ≤ 4) → (x_5960.toInt ≤ z_5962.toInt) → (4 - z_5961.toInt).toNat < n_5965 → (PX7_unsureLine fM_tape iM_size iM_at iM_end iM_token iM_whole iM_nameSize iM_fault iM_place fM_letters iM_failed fM_fresh = HX7_unsureLine_1 fM_tape iM_size iM_at iM_end iM_token iM_whole iM_nameSize fM_letters fM_fresh n_5965 z_5961 z_5962 z_5963 z_5964) → va_P (dC, dI) vwCl [(oc7 oM iM_thrown rM_tape iM_taped iM_size iM_at iM_end iM_token iM_whole iM_nameSize z_5963 z_5964 iM_trouble rM_letters z_5962 iM_hasCourt rM_r rM_fresh rM_told rM_read rM_st rM_undone rM_kept iM_undos iM_images rM_fresher iM_fresherSize iM_scale iM_night rM_heardRow rM_cutRow iM_breaths iM_cutMany iM_allBreaths rM_trial rM_words iM_fewestBreaths iM_orderMany iM_orderSum iM_leastOrder rM_often iM_setMany iM_someOf iM_allOf iM_allWeight iM_enoughWeight iM_worthSum iM_firstRest iM_leastDrawn), (arI rM_tape kM_tape 900 fM_tape), (arI rM_letters kM_letters 8 fM_letters), (arI rM_fresh kM_fresh 287 fM_fresh), (arI rM_read kM_read 90 fM_read)] H → va_D A [(oc7 oM iM_thrown rM_tape iM_taped iM_size iM_at iM_end iM_token iM_whole iM_nameSize z_5963 z_5964 iM_trouble rM_letters z_5962 iM_hasCourt rM_r rM_fresh rM_told rM_read rM_st rM_undone rM_kept iM_undos iM_images rM_fresher iM_fresherSize iM_scale iM_night rM_heardRow rM_cutRow iM_breaths iM_cutMany iM_allBreaths rM_trial rM_words iM_fewestBreaths iM_orderMany iM_orderSum iM_leastOrder rM_often iM_setMany iM_someOf iM_allOf iM_allWeight iM_enoughWeight iM_worthSum iM_firstRest iM_leastDrawn), (arI rM_tape kM_tape 900 fM_tape), (arI rM_letters kM_letters 8 fM_letters), (arI rM_fresh kM_fresh 287 fM_fresh), (arI rM_read kM_read 90 fM_read)] → va_S A s.heap H locs → lv_has ls 4 [(3, .int z_5961), (2, .int x_5884), (1, .int x_5880), (0, .ref oM)] → W p l e (headSpec (Cond.code yX7_unsureLine cX7_unsureLine 4 none :: wG) ({ frames := 7, cells := 0, slots := 0, locals := 175 })).room s m ([.ref oM] : List Value).toArray below meth c H locs 0 0 (MQ below (va_Qv (fun (_ : Nat) => True) (fun (_ : Nat) (t : State) => ∃ (niM_at : Int32) (niM_end : Int32) (niM_token : Int32) (niM_whole : Int32) (niM_nameSize : Int32) (niM_fault : Int32) (niM_place : Int32) (niM_failed : Int32) (nfM_letters : Nat → Int32) (nfM_fresh : Nat → Int32), (0 ≤ niM_end.toInt ∧ niM_end.toInt ≤ 900) ∧ (0 ≤ niM_nameSize.toInt ∧ niM_nameSize.toInt ≤ 900) ∧ (0 ≤ niM_failed.toInt ∧ niM_failed.toInt ≤ 1) ∧ (iM_end.toInt ≤ niM_end.toInt) ∧ (ImpP (niM_token.toInt = 2) (niM_nameSize.toInt ≤ 8)) ∧ (iM_failed.toInt ≤ niM_failed.toInt) ∧ (ImpP (niM_failed.toInt ≤ 0 ∧ niM_token.toInt = 59 ) (iM_end.toInt + 1 ≤ niM_end.toInt)) ∧ (POk nfM_fresh fM_read) ∧ (PX7_unsureLine fM_tape iM_size iM_at iM_end iM_token iM_whole iM_nameSize iM_fault iM_place fM_letters iM_failed fM_fresh = (niM_at, niM_end, niM_token, niM_whole, niM_nameSize, niM_fault, niM_place, niM_failed, nfM_letters, nfM_fresh)) ∧ Bw dC dI A [(oc7 oM iM_thrown rM_tape iM_taped iM_size niM_at niM_end niM_token niM_whole niM_nameSize niM_fault niM_place iM_trouble rM_letters niM_failed iM_hasCourt rM_r rM_fresh rM_told rM_read rM_st rM_undone rM_kept iM_undos iM_images rM_fresher iM_fresherSize iM_scale iM_night rM_heardRow rM_cutRow iM_breaths iM_cutMany iM_allBreaths rM_trial rM_words iM_fewestBreaths iM_orderMany iM_orderSum iM_leastOrder rM_often iM_setMany iM_someOf iM_allOf iM_allWeight iM_enoughWeight iM_worthSum iM_firstRest iM_leastDrawn), (arI rM_tape kM_tape 900 fM_tape), (arI rM_letters kM_letters 8 nfM_letters), (arI rM_fresh kM_fresh 287 nfM_fresh), (arI rM_read kM_read 90 fM_read)] [(kM_tape, .int), (kM_letters, .int), (kM_fresh, .int), (kM_read, .int)] t) A) ([.ref oM] : List Value).toArray s 0 0 A) (F0 m 55 ls []) := by
          intro n_5965
          induction n_5965 with
          | zero => intro z_5961 z_5962 z_5963 z_5964 H locs ls b_z_5962 hi0_n_5965 hi1_n_5965 hm; exact absurd hm (Nat.not_lt_zero _)
          | succ n_5965 ih_n_5965 =>
            intro z_5961 z_5962 z_5963 z_5964 H locs ls b_z_5962 hi0_n_5965 hi1_n_5965 hm_n_5965 hG hP hD hS hl
            have hG := hG.trans (HX7_unsureLine_1_eq _ _ _ _ _ _ _ _ _ _ _ _ _ _)
            refine lv_iload_n hx hb dX7_unsureLine_55 rfl (lv_at hl 0 rfl) ?_
            refine lv_aload_n hx hb dX7_unsureLine_56 rfl (lv_at hl 3 rfl) ?_
            refine va_get (D := (dC, dI)) (ci := 7) (v := .ref rM_fresh) (C := RX7) (T := TX7) (N := 48) hx hb hts inX7 hown hK hP 0 rfl rfl 16 (by decide) (hts _ wd_156) (fun _ h9 => h9) rfl dX7_unsureLine_57 ?_
            refine lv_iconst (v := 3) hx hb dX7_unsureLine_60 (by decide) ?_
            refine va_iald hx hb hK hP 3 2 rfl rfl (by unfold vp_in; decide) dX7_unsureLine_61 ?_
            refine lv_topi (fun x_5966 ex_5966 => ?_)
            have hG := hG.trans (lt_eq ex_5966)
            have cx_5966 : (fM_fresh 3).toInt = x_5966.toInt := congrArg Int32.toInt (show fM_fresh 3 = x_5966 from ex_5966.symm)
            refine lv_icmp_ge (tgt := 102) hx hb dX7_unsureLine_62 (by decide) (fun c_5967 => ?_) (fun c_5967 => ?_)
            · skip
              have hG := hG.trans (if_pos c_5967)
              have gc_5967 := ti_le c_5967 rfl rfl
              refine lv_aload_n hx hb dX7_unsureLine_102 rfl (lv_at hl 3 rfl) ?_
              have hMs := ml_of hD [true, true, true, false, false] (wc := [(oc7 oM iM_thrown rM_tape iM_taped iM_size iM_at iM_end iM_token iM_whole iM_nameSize z_5963 z_5964 iM_trouble rM_letters z_5962 iM_hasCourt rM_r rM_fresh rM_told rM_read rM_st rM_undone rM_kept iM_undos iM_images rM_fresher iM_fresherSize iM_scale iM_night rM_heardRow rM_cutRow iM_breaths iM_cutMany iM_allBreaths rM_trial rM_words iM_fewestBreaths iM_orderMany iM_orderSum iM_leastOrder rM_often iM_setMany iM_someOf iM_allOf iM_allWeight iM_enoughWeight iM_worthSum iM_firstRest iM_leastDrawn), (arI rM_tape kM_tape 900 fM_tape), (arI rM_letters kM_letters 8 fM_letters)]) rfl
              have hFc := va_freeM hD hS hA _ hMs
              refine va_callv (va_runV (As := []) (rest := []) ⟨hx, hb, hml, hown, hts⟩ (tX7_pass l dC dI _ oM iM_thrown rM_tape fM_tape kM_tape iM_taped iM_size iM_at iM_end iM_token iM_whole iM_nameSize z_5963 z_5964 iM_trouble rM_letters fM_letters kM_letters z_5962 iM_hasCourt rM_r rM_fresh rM_told rM_read rM_st rM_undone rM_kept iM_undos iM_images rM_fresher iM_fresherSize iM_scale iM_night rM_heardRow rM_cutRow iM_breaths iM_cutMany iM_allBreaths rM_trial rM_words iM_fewestBreaths iM_orderMany iM_orderSum iM_leastOrder rM_often iM_setMany iM_someOf iM_allOf iM_allWeight iM_enoughWeight iM_worthSum iM_firstRest iM_leastDrawn b_iM_taped b_iM_size b_iM_end b_iM_nameSize b_z_5962 b_iM_hasCourt b_iM_undos b_iM_images b_iM_scale b_iM_breaths b_iM_cutMany r_T) (cwV 0 hts (wd_V wd_454 wd_455 wd_456 wd_5 (wd_c wd_457)) rfl rfl rfl dv_yX7_pass_0 ⟨Nat.le_of_ble_eq_true rfl, Nat.le_of_ble_eq_true rfl⟩) ⟨Pw.fb, recvX7 hK hP (q0 := 0) rfl, fun U hU hW => Pw.to (hP.ms _ hMs) (hD.ms _ hMs) (hK.ms [true, true, false, false] rfl) hE hS hFc hU hW⟩ rfl rfl hl.1 rfl (lv_room (Nat.le_of_ble_eq_true rfl)) dX7_unsureLine_103 ⟨Nat.le_of_ble_eq_true rfl, Nat.le_of_ble_eq_true rfl⟩) hS (fun q _ h => hFc q h) hFc (fun u t H locs ht hvm hw hB hz1 hk1 hS => ?_)
              refine ex_6_6 hB (fun x_5968 x_5969 x_5970 x_5971 x_5972 f_5973 b_x_5969 b_x_5972 e_x_5968_0 e_x_5968_1 e_x_5968_2 e_x_5968_3 hB => ?_)
              obtain ⟨hP, hD⟩ := Bw.goN (ws' := [(oc7 oM iM_thrown rM_tape iM_taped iM_size x_5968 x_5969 x_5970 x_5971 x_5972 z_5963 z_5964 iM_trouble rM_letters z_5962 iM_hasCourt rM_r rM_fresh rM_told rM_read rM_st rM_undone rM_kept iM_undos iM_images rM_fresher iM_fresherSize iM_scale iM_night rM_heardRow rM_cutRow iM_breaths iM_cutMany iM_allBreaths rM_trial rM_words iM_fewestBreaths iM_orderMany iM_orderSum iM_leastOrder rM_often iM_setMany iM_someOf iM_allOf iM_allWeight iM_enoughWeight iM_worthSum iM_firstRest iM_leastDrawn), (arI rM_tape kM_tape 900 fM_tape), (arI rM_letters kM_letters 8 f_5973), (arI rM_fresh kM_fresh 287 fM_fresh), (arI rM_read kM_read 90 fM_read)]) hB rfl ht hP hD _ hMs hk1 hFc rfl
              clear hz1 hk1 hvm ht hB hMs
              have hG := hG.trans (un6_eq e_x_5968_3)
              clear r_T
              refine lv_aload_n hx hb dX7_unsureLine_106 rfl (lv_at hl 3 rfl) ?_
              refine lv_iconst (v := 0) hx hb dX7_unsureLine_107 (by decide) ?_
              refine lv_bipush (v := 99) hx hb dX7_unsureLine_108 (by decide) ?_
              have hMs := ml_of hD [true, true, true, false, false] (wc := [(oc7 oM iM_thrown rM_tape iM_taped iM_size x_5968 x_5969 x_5970 x_5971 x_5972 z_5963 z_5964 iM_trouble rM_letters z_5962 iM_hasCourt rM_r rM_fresh rM_told rM_read rM_st rM_undone rM_kept iM_undos iM_images rM_fresher iM_fresherSize iM_scale iM_night rM_heardRow rM_cutRow iM_breaths iM_cutMany iM_allBreaths rM_trial rM_words iM_fewestBreaths iM_orderMany iM_orderSum iM_leastOrder rM_often iM_setMany iM_someOf iM_allOf iM_allWeight iM_enoughWeight iM_worthSum iM_firstRest iM_leastDrawn), (arI rM_tape kM_tape 900 fM_tape), (arI rM_letters kM_letters 8 f_5973)]) rfl
              have hFc := va_freeM hD hS hA _ hMs
              refine va_calli (va_runV (As := [.int 0, .int 99]) (rest := []) ⟨hx, hb, hml, hown, hts⟩ (tX7_number l dC dI _ oM iM_thrown rM_tape fM_tape kM_tape iM_taped iM_size x_5968 x_5969 x_5970 x_5971 x_5972 z_5963 z_5964 iM_trouble rM_letters f_5973 kM_letters z_5962 iM_hasCourt rM_r rM_fresh rM_told rM_read rM_st rM_undone rM_kept iM_undos iM_images rM_fresher iM_fresherSize iM_scale iM_night rM_heardRow rM_cutRow iM_breaths iM_cutMany iM_allBreaths rM_trial rM_words iM_fewestBreaths iM_orderMany iM_orderSum iM_leastOrder rM_often iM_setMany iM_someOf iM_allOf iM_allWeight iM_enoughWeight iM_worthSum iM_firstRest iM_leastDrawn 0 99 b_iM_taped b_iM_size b_x_5969 b_x_5972 b_z_5962 b_iM_hasCourt b_iM_undos b_iM_images b_iM_scale b_iM_breaths b_iM_cutMany e_x_5968_1 (om_b0b40937 kc_0 kc_99)) (cwV 2 hts (wd_V wd_446 wd_447 wd_448 wd_5 (wd_c wd_449)) rfl rfl rfl dv_yX7_number_2 ⟨Nat.le_of_ble_eq_true rfl, Nat.le_of_ble_eq_true rfl⟩) ⟨Pw.fb, recvX7 hK hP (q0 := 0) rfl, fun U hU hW => Pw.to (hP.ms _ hMs) (hD.ms _ hMs) (hK.ms [true, true, false, false] rfl) hE hS hFc hU hW⟩ rfl rfl hl.1 rfl (lv_room (Nat.le_of_ble_eq_true rfl)) dX7_unsureLine_110 ⟨Nat.le_of_ble_eq_true rfl, Nat.le_of_ble_eq_true rfl⟩) hS (fun q _ h => hFc q h) hFc (fun r u t H locs ht hvm hw hB hz1 hk1 hS => ?_)
              have hru9 := hw.2
              have hw := hw.1
              refine ex_9_8 hB (fun x_5974 x_5975 x_5976 x_5977 x_5978 x_5979 x_5980 x_5981 f_5982 b_x_5975 b_x_5978 b_x_5981 e_x_5974_0 e_x_5974_1 e_x_5974_2 e_x_5974_3 e_x_5974_4 hB => ?_)
              obtain ⟨hP, hD⟩ := Bw.goN (ws' := [(oc7 oM iM_thrown rM_tape iM_taped iM_size x_5974 x_5975 x_5976 x_5977 x_5978 x_5979 x_5980 iM_trouble rM_letters x_5981 iM_hasCourt rM_r rM_fresh rM_told rM_read rM_st rM_undone rM_kept iM_undos iM_images rM_fresher iM_fresherSize iM_scale iM_night rM_heardRow rM_cutRow iM_breaths iM_cutMany iM_allBreaths rM_trial rM_words iM_fewestBreaths iM_orderMany iM_orderSum iM_leastOrder rM_often iM_setMany iM_someOf iM_allOf iM_allWeight iM_enoughWeight iM_worthSum iM_firstRest iM_leastDrawn), (arI rM_tape kM_tape 900 fM_tape), (arI rM_letters kM_letters 8 f_5982), (arI rM_fresh kM_fresh 287 fM_fresh), (arI rM_read kM_read 90 fM_read)]) hB rfl ht hP hD _ hMs hk1 hFc rfl
              clear hz1 hk1 hvm ht hB hMs
              rw [← hru9] at e_x_5974_4
              obtain ⟨x_5983, rfl⟩ : ∃ z, z = r := ⟨_, rfl⟩
              have hG := hG.trans (un10_eq e_x_5974_4)
              have lx_5983 := hw.2
              have kl_0 := kc_0
              have kl_99 := kc_99
              clear e_x_5968_1
              clear e_x_5968_2
              refine lv_istore_n (lv' := [(3, .int x_5983), (2, .int x_5884), (1, .int x_5880), (0, .ref oM)]) hx hb dX7_unsureLine_113 rfl hl (by decide) rfl (fun ls hl => ?_)
              refine lv_aload_n hx hb dX7_unsureLine_114 rfl (lv_at hl 3 rfl) ?_
              refine va_get (D := (dC, dI)) (ci := 7) (v := .int x_5981) (C := RX7) (T := TX7) (N := 48) hx hb hts inX7 hown hK hP 0 rfl rfl 13 (by decide) (hts _ wd_380) (fun _ h9 => h9) rfl dX7_unsureLine_115 ?_
              refine lv_if_eq (tgt := 122) hx hb dX7_unsureLine_118 (by decide) (fun c_5984 => ?_) (fun c_5984 => ?_)
              · skip
                have hG := hG.trans (if_pos c_5984)
                have gc_5984 := ti_eq c_5984 rfl kc_0
                exact ((om_5c6c3440 e_x_5958_0 hi1_n_5965 e_x_5974_2 gc_5984)).elim
              · skip
                have hG := hG.trans (if_neg c_5984)
                have gc_5984 := ti_ne c_5984 rfl kc_0
                replace gc_5984 : (-1) * x_5981.toInt + 1 ≤ 0 := om_e3003f79 gc_5984 b_x_5981.1
                exact wq_v hx hb hr 0 trivial (fun t ht hW => ⟨x_5974, x_5975, x_5976, x_5977, x_5978, x_5979, x_5980, x_5981, f_5982, fM_fresh, b_x_5975, b_x_5978, b_x_5981, (om_9348f5ae e_x_5968_0 e_x_5974_0), e_x_5974_1, (om_1fc3dec6 gc_5876 b_x_5981.1), (fun h9 => False.elim (om_a5fe015d gc_5984 h9.1)), r_P, hG, Bw.to hP hD hK ht hW⟩) hS dX7_unsureLine_121 hlocks
            · skip
              have hG := hG.trans (if_neg c_5967)
              have gc_5967 := ti_nle c_5967 rfl rfl
              refine lv_aload_n hx hb dX7_unsureLine_65 rfl (lv_at hl 3 rfl) ?_
              refine va_get (D := (dC, dI)) (ci := 7) (v := .int z_5962) (C := RX7) (T := TX7) (N := 48) hx hb hts inX7 hown hK hP 0 rfl rfl 13 (by decide) (hts _ wd_380) (fun _ h9 => h9) rfl dX7_unsureLine_66 ?_
              refine lv_if_ne (tgt := 96) hx hb dX7_unsureLine_69 (by decide) (fun c_5985 => ?_) (fun c_5985 => ?_)
              · skip
                have hG := hG.trans (if_neg c_5985)
                have gc_5985 := ti_ne c_5985 rfl kc_0
                replace gc_5985 : (-1) * z_5962.toInt + 1 ≤ 0 := om_e3003f79 gc_5985 b_z_5962.1
                obtain ⟨x_5986, ex_5986⟩ : ∃ z : Int32, z = z_5961 + Int32.ofInt 1 := ⟨_, rfl⟩
                have hG := hG.trans (lt_eq ex_5986)
                have vx_5986 : x_5986.toInt = z_5961.toInt + 1 := ti_add (y := 1) ex_5986 rfl kc_1 (om_4e4fce7e hi0_n_5965.1) (om_bae2951a hi0_n_5965.2)
                refine lv_iinc (v := x_5986) (lv' := [(3, .int x_5986), (2, .int x_5884), (1, .int x_5880), (0, .ref oM)]) hx hb dX7_unsureLine_96 hl (k := 0) rfl ex_5986.symm (by decide) rfl (fun ls hl => ?_)
                refine lv_goto (tgt := 55) hx hb dX7_unsureLine_99 (by decide) ?_
                exact ih_n_5965 x_5986 z_5962 z_5963 z_5964 _ _ _ b_z_5962 ⟨(om_83b90de5 hi0_n_5965.1 vx_5986), (om_8267bec5 pl_fM_fresh.2.2.2.1.2 cx_5966 gc_5967 vx_5986)⟩ hi1_n_5965 (ms_lt hm_n_5965 (om_ed22490e vx_5986) (om_e4be4046 pl_fM_fresh.2.2.2.1.2 cx_5966 gc_5967)) hG hP hD hS (lv_sub hl [0, 1, 2, 3] rfl)
              · skip
                have hG := hG.trans (if_pos c_5985)
                have gc_5985 := ti_eq c_5985 rfl kc_0
                exact ((om_2f02dee4 e_x_5958_0 hi1_n_5965 gc_5985)).elim
        exact key_n_5965 (((4 - (0 : Int32).toInt).toNat) + 1) 0 x_5960 x_5958 x_5959 _ _ _ b_x_5960 ⟨(om_b1de7dbe kc_0), (om_bebe011a kc_0)⟩ om_1cb5f934 (Nat.lt_add_one _) hG hP hD hS hl
  · skip
    have hG := hG.trans (if_neg c_5876)
    have gc_5876 := ti_ne c_5876 rfl kc_0
    replace gc_5876 : (-1) * iM_failed.toInt + 1 ≤ 0 := om_e3003f79 gc_5876 b_iM_failed.1
    clear hul
    exact wq_v hx hb hr 0 trivial (fun t ht hW => ⟨iM_at, iM_end, iM_token, iM_whole, iM_nameSize, iM_fault, iM_place, iM_failed, fM_letters, fM_fresh, ⟨b_iM_end.1, b_iM_end.2⟩, ⟨b_iM_nameSize.1, b_iM_nameSize.2⟩, ⟨b_iM_failed.1, b_iM_failed.2⟩, om_1cb5f934, r_T, om_1cb5f934, (fun h9 => False.elim (om_a5fe015d gc_5876 h9.1)), r_P, hG, Bw.to hP hD hK ht hW⟩) hS dX7_unsureLine_7 hlocks
