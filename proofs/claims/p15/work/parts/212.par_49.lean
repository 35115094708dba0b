set_option maxHeartbeats 4000000 in
set_option maxRecDepth 100000 in
theorem tX7_courtLine (l : Launch) (dC : Nat → ClassId) (dI : Nat → Nat → Nat) (sz : Nat) (oM : Nat) (iM_thrown : Int32) (rM_tape : Nat) (fM_tape : Nat → Int32) (kM_tape : ClassId) (iM_taped : Int32) (iM_size : Int32) (iM_at : Int32) (iM_end : Int32) (iM_token : Int32) (iM_whole : Int32) (iM_nameSize : Int32) (iM_fault : Int32) (iM_place : Int32) (iM_trouble : Int32) (rM_letters : Nat) (fM_letters : Nat → Int32) (kM_letters : ClassId) (iM_failed : Int32) (iM_hasCourt : Int32) (rM_r : Nat) (rM_fresh : Nat) (fM_fresh : Nat → Int32) (kM_fresh : ClassId) (rM_told : Nat) (rM_read : Nat) (fM_read : Nat → Int32) (kM_read : ClassId) (rM_st : Nat) (rM_undone : Nat) (rM_kept : Nat) (iM_undos : Int32) (iM_images : Int32) (rM_fresher : Nat) (iM_fresherSize : Int32) (iM_scale : Int32) (iM_night : Int32) (rM_heardRow : Nat) (rM_cutRow : Nat) (iM_breaths : Int32) (iM_cutMany : Int32) (iM_allBreaths : Int32) (rM_trial : Nat) (rM_words : Nat) (iM_fewestBreaths : Int32) (iM_orderMany : Int32) (iM_orderSum : Int32) (iM_leastOrder : Int32) (rM_often : Nat) (iM_setMany : Int32) (iM_someOf : Int32) (iM_allOf : Int32) (iM_allWeight : Int64) (iM_enoughWeight : Int64) (iM_worthSum : Int64) (iM_firstRest : Int32) (iM_leastDrawn : Int32) (b_iM_taped : 0 ≤ iM_taped.toInt ∧ iM_taped.toInt ≤ 900) (b_iM_size : 0 ≤ iM_size.toInt ∧ iM_size.toInt ≤ 900) (b_iM_end : 0 ≤ iM_end.toInt ∧ iM_end.toInt ≤ 900) (b_iM_nameSize : 0 ≤ iM_nameSize.toInt ∧ iM_nameSize.toInt ≤ 900) (b_iM_failed : 0 ≤ iM_failed.toInt ∧ iM_failed.toInt ≤ 1) (b_iM_hasCourt : 0 ≤ iM_hasCourt.toInt ∧ iM_hasCourt.toInt ≤ 1) (b_iM_undos : 0 ≤ iM_undos.toInt ∧ iM_undos.toInt ≤ 16) (b_iM_images : 0 ≤ iM_images.toInt ∧ iM_images.toInt ≤ 3) (b_iM_scale : 1 ≤ iM_scale.toInt ∧ iM_scale.toInt ≤ 1296) (b_iM_breaths : 0 ≤ iM_breaths.toInt ∧ iM_breaths.toInt ≤ 399) (b_iM_cutMany : 0 ≤ iM_cutMany.toInt ∧ iM_cutMany.toInt ≤ 399) (r_T : ImpP (iM_token.toInt = 2) (iM_nameSize.toInt ≤ 8)) (r_P : POk fM_fresh fM_read)  : Met l yX7_courtLine (Cond.code yX7_courtLine cX7_courtLine 1 none :: wG) ({ frames := 8, cells := 0, slots := 0, locals := 199 }) (va_Pc [.ref oM] (Pw dC dI sz [(oc7 oM iM_thrown rM_tape iM_taped iM_size iM_at iM_end iM_token iM_whole iM_nameSize iM_fault iM_place iM_trouble rM_letters iM_failed iM_hasCourt rM_r rM_fresh rM_told rM_read rM_st rM_undone rM_kept iM_undos iM_images rM_fresher iM_fresherSize iM_scale iM_night rM_heardRow rM_cutRow iM_breaths iM_cutMany iM_allBreaths rM_trial rM_words iM_fewestBreaths iM_orderMany iM_orderSum iM_leastOrder rM_often iM_setMany iM_someOf iM_allOf iM_allWeight iM_enoughWeight iM_worthSum iM_firstRest iM_leastDrawn), (arI rM_tape kM_tape 900 fM_tape), (arI rM_letters kM_letters 8 fM_letters), (arI rM_fresh kM_fresh 287 fM_fresh), (arI rM_read kM_read 90 fM_read)] [(kM_tape, .int), (kM_letters, .int), (kM_fresh, .int), (kM_read, .int)])) (va_Qv (fun (_ : Nat) => True) (fun (_ : Nat) (t : State) => ∃ (niM_at : Int32) (niM_end : Int32) (niM_token : Int32) (niM_whole : Int32) (niM_nameSize : Int32) (niM_fault : Int32) (niM_place : Int32) (niM_failed : Int32) (nfM_letters : Nat → Int32) (nfM_fresh : Nat → Int32), (0 ≤ niM_end.toInt ∧ niM_end.toInt ≤ 900) ∧ (0 ≤ niM_nameSize.toInt ∧ niM_nameSize.toInt ≤ 900) ∧ (0 ≤ niM_failed.toInt ∧ niM_failed.toInt ≤ 1) ∧ (iM_end.toInt ≤ niM_end.toInt) ∧ (ImpP (niM_token.toInt = 2) (niM_nameSize.toInt ≤ 8)) ∧ (iM_failed.toInt ≤ niM_failed.toInt) ∧ (ImpP (niM_failed.toInt ≤ 0 ∧ niM_token.toInt = 59 ) (iM_end.toInt + 1 ≤ niM_end.toInt)) ∧ (POk nfM_fresh fM_read) ∧ (PX7_courtLine fM_tape iM_size iM_at iM_end iM_token iM_whole iM_nameSize iM_fault iM_place fM_letters iM_failed fM_fresh = (niM_at, niM_end, niM_token, niM_whole, niM_nameSize, niM_fault, niM_place, niM_failed, nfM_letters, nfM_fresh)) ∧ Bw dC dI (va_A [(oc7 oM iM_thrown rM_tape iM_taped iM_size iM_at iM_end iM_token iM_whole iM_nameSize iM_fault iM_place iM_trouble rM_letters iM_failed iM_hasCourt rM_r rM_fresh rM_told rM_read rM_st rM_undone rM_kept iM_undos iM_images rM_fresher iM_fresherSize iM_scale iM_night rM_heardRow rM_cutRow iM_breaths iM_cutMany iM_allBreaths rM_trial rM_words iM_fewestBreaths iM_orderMany iM_orderSum iM_leastOrder rM_often iM_setMany iM_someOf iM_allOf iM_allWeight iM_enoughWeight iM_worthSum iM_firstRest iM_leastDrawn), (arI rM_tape kM_tape 900 fM_tape), (arI rM_letters kM_letters 8 fM_letters), (arI rM_fresh kM_fresh 287 fM_fresh), (arI rM_read kM_read 90 fM_read)] sz) [(oc7 oM iM_thrown rM_tape iM_taped iM_size niM_at niM_end niM_token niM_whole niM_nameSize niM_fault niM_place iM_trouble rM_letters niM_failed iM_hasCourt rM_r rM_fresh rM_told rM_read rM_st rM_undone rM_kept iM_undos iM_images rM_fresher iM_fresherSize iM_scale iM_night rM_heardRow rM_cutRow iM_breaths iM_cutMany iM_allBreaths rM_trial rM_words iM_fewestBreaths iM_orderMany iM_orderSum iM_leastOrder rM_often iM_setMany iM_someOf iM_allOf iM_allWeight iM_enoughWeight iM_worthSum iM_firstRest iM_leastDrawn), (arI rM_tape kM_tape 900 fM_tape), (arI rM_letters kM_letters 8 nfM_letters), (arI rM_fresh kM_fresh 287 nfM_fresh), (arI rM_read kM_read 90 fM_read)] [(kM_tape, .int), (kM_letters, .int), (kM_fresh, .int), (kM_read, .int)] t) (va_A [(oc7 oM iM_thrown rM_tape iM_taped iM_size iM_at iM_end iM_token iM_whole iM_nameSize iM_fault iM_place iM_trouble rM_letters iM_failed iM_hasCourt rM_r rM_fresh rM_told rM_read rM_st rM_undone rM_kept iM_undos iM_images rM_fresher iM_fresherSize iM_scale iM_night rM_heardRow rM_cutRow iM_breaths iM_cutMany iM_allBreaths rM_trial rM_words iM_fewestBreaths iM_orderMany iM_orderSum iM_leastOrder rM_often iM_setMany iM_someOf iM_allOf iM_allWeight iM_enoughWeight iM_worthSum iM_firstRest iM_leastDrawn), (arI rM_tape kM_tape 900 fM_tape), (arI rM_letters kM_letters 8 fM_letters), (arI rM_fresh kM_fresh 287 fM_fresh), (arI rM_read kM_read 90 fM_read)] sz)) 0 0 (va_A [(oc7 oM iM_thrown rM_tape iM_taped iM_size iM_at iM_end iM_token iM_whole iM_nameSize iM_fault iM_place iM_trouble rM_letters iM_failed iM_hasCourt rM_r rM_fresh rM_told rM_read rM_st rM_undone rM_kept iM_undos iM_images rM_fresher iM_fresherSize iM_scale iM_night rM_heardRow rM_cutRow iM_breaths iM_cutMany iM_allBreaths rM_trial rM_words iM_fewestBreaths iM_orderMany iM_orderSum iM_leastOrder rM_often iM_setMany iM_someOf iM_allOf iM_allWeight iM_enoughWeight iM_worthSum iM_firstRest iM_leastDrawn), (arI rM_tape kM_tape 900 fM_tape), (arI rM_letters kM_letters 8 fM_letters), (arI rM_fresh kM_fresh 287 fM_fresh), (arI rM_read kM_read 90 fM_read)] sz) := by
  refine Met.ofW (cc := cX7_courtLine) (maxL := 1) (ret := none) pnX7 rfl ?_
  intro p e s m args below meth c s₁ B hml hv
  obtain ⟨rfl, hsz, hP, hK, hD0, hE⟩ := hv
  have hx := B.exec
  have hb := B.bytes
  have hr := B.returns
  have hts : ∀ w ∈ wG, w.before ([.ref oM] : List Value).toArray s = true := fun w h => atoms_spec (ws := Cond.code yX7_courtLine cX7_courtLine 1 none :: wG) B.pre w (List.mem_cons_of_mem _ h)
  have hown : s.vm.findClass RX7 = some m.cls := own_of B.named rfl
  have hlocks := B.notSynchronized
  subst hsz
  have hD := hD0.self (sz := s.heap.size)
  generalize hAe : va_A [(oc7 oM iM_thrown rM_tape iM_taped iM_size iM_at iM_end iM_token iM_whole iM_nameSize iM_fault iM_place iM_trouble rM_letters iM_failed iM_hasCourt rM_r rM_fresh rM_told rM_read rM_st rM_undone rM_kept iM_undos iM_images rM_fresher iM_fresherSize iM_scale iM_night rM_heardRow rM_cutRow iM_breaths iM_cutMany iM_allBreaths rM_trial rM_words iM_fewestBreaths iM_orderMany iM_orderSum iM_leastOrder rM_often iM_setMany iM_someOf iM_allOf iM_allWeight iM_enoughWeight iM_worthSum iM_firstRest iM_leastDrawn), (arI rM_tape kM_tape 900 fM_tape), (arI rM_letters kM_letters 8 fM_letters), (arI rM_fresh kM_fresh 287 fM_fresh), (arI rM_read kM_read 90 fM_read)] s.heap.size = A at hD hE ⊢
  have hA : ∀ q : Nat, s.heap.size ≤ q → A q := fun q h => by rw [← hAe]; exact Or.inr h
  have hS : va_S A s.heap s.heap [] := va_S.rf
  have hl := lv_entry ([.ref oM]) (n := 1) (Nat.le_of_ble_eq_true rfl)
  rw [lg_entry_eq]
  generalize (lg_sl ([.ref oM]) ++ List.replicate (1 - (lg_sl ([.ref oM])).length) Slot.unset).toArray = ls at hl ⊢
  have hl : lv_has ls 1 [(0, .ref oM)] := hl
  have hG := PX7_courtLine_eq fM_tape iM_size iM_at iM_end iM_token iM_whole iM_nameSize iM_fault iM_place fM_letters iM_failed fM_fresh
  have pl_fM_fresh := r_P.lins
  refine lv_aload_n hx hb dX7_courtLine_0 rfl (lv_at hl 0 rfl) ?_
  refine va_get (D := (dC, dI)) (ci := 7) (v := .ref rM_fresh) (C := RX7) (T := TX7) (N := 48) hx hb hts inX7 hown hK hP 0 rfl rfl 16 (by decide) (hts _ wd_156) (fun _ h9 => h9) rfl dX7_courtLine_1 ?_
  refine lv_iconst (v := 5) hx hb dX7_courtLine_4 (by decide) ?_
  refine va_iald hx hb hK hP 3 2 rfl rfl (by unfold vp_in; decide) dX7_courtLine_5 ?_
  refine lv_topi (fun x_5474 ex_5474 => ?_)
  have hG := hG.trans (lt_eq ex_5474)
  have cx_5474 : (fM_fresh 5).toInt = x_5474.toInt := congrArg Int32.toInt (show fM_fresh 5 = x_5474 from ex_5474.symm)
  refine lv_if_le (tgt := 18) hx hb dX7_courtLine_6 (by decide) (fun c_5475 => ?_) (fun c_5475 => ?_)
  · skip
    have hG := hG.trans (if_pos c_5475)
    have gc_5475 := ti_le c_5475 rfl kc_0
    refine lv_aload_n hx hb dX7_courtLine_18 rfl (lv_at hl 0 rfl) ?_
    refine va_get (D := (dC, dI)) (ci := 7) (v := .int iM_failed) (C := RX7) (T := TX7) (N := 48) hx hb hts inX7 hown hK hP 0 rfl rfl 13 (by decide) (hts _ wd_380) (fun _ h9 => h9) rfl dX7_courtLine_19 ?_
    refine lv_if_eq (tgt := 26) hx hb dX7_courtLine_22 (by decide) (fun c_5476 => ?_) (fun c_5476 => ?_)
    · skip
      have hG := hG.trans (if_pos c_5476)
      have gc_5476 := ti_eq c_5476 rfl kc_0
      refine lv_aload_n hx hb dX7_courtLine_26 rfl (lv_at hl 0 rfl) ?_
      have hMs := ml_of hD [true, true, true, false, false] (wc := [(oc7 oM iM_thrown rM_tape iM_taped iM_size iM_at iM_end iM_token iM_whole iM_nameSize iM_fault iM_place iM_trouble rM_letters iM_failed iM_hasCourt rM_r rM_fresh rM_told rM_read rM_st rM_undone rM_kept iM_undos iM_images rM_fresher iM_fresherSize iM_scale iM_night rM_heardRow rM_cutRow iM_breaths iM_cutMany iM_allBreaths rM_trial rM_words iM_fewestBreaths iM_orderMany iM_orderSum iM_leastOrder rM_often iM_setMany iM_someOf iM_allOf iM_allWeight iM_enoughWeight iM_worthSum iM_firstRest iM_leastDrawn), (arI rM_tape kM_tape 900 fM_tape), (arI rM_letters kM_letters 8 fM_letters)]) rfl
      have hFc := va_freeM hD hS hA _ hMs
      refine va_callv (va_runV (As := []) (rest := []) ⟨hx, hb, hml, hown, hts⟩ (tX7_next l dC dI _ oM iM_thrown rM_tape fM_tape kM_tape iM_taped iM_size iM_at iM_end iM_token iM_whole iM_nameSize iM_fault iM_place iM_trouble rM_letters fM_letters kM_letters iM_failed iM_hasCourt rM_r rM_fresh rM_told rM_read rM_st rM_undone rM_kept iM_undos iM_images rM_fresher iM_fresherSize iM_scale iM_night rM_heardRow rM_cutRow iM_breaths iM_cutMany iM_allBreaths rM_trial rM_words iM_fewestBreaths iM_orderMany iM_orderSum iM_leastOrder rM_often iM_setMany iM_someOf iM_allOf iM_allWeight iM_enoughWeight iM_worthSum iM_firstRest iM_leastDrawn b_iM_taped b_iM_size b_iM_end b_iM_nameSize b_iM_failed b_iM_hasCourt b_iM_undos b_iM_images b_iM_scale b_iM_breaths b_iM_cutMany r_T) (cwV 0 hts (wd_V wd_400 wd_401 wd_402 wd_5 (wd_c wd_403)) rfl rfl rfl dv_yX7_next_0 ⟨Nat.le_of_ble_eq_true rfl, Nat.le_of_ble_eq_true rfl⟩) ⟨Pw.fb, recvX7 hK hP (q0 := 0) rfl, fun U hU hW => Pw.to (hP.ms _ hMs) (hD.ms _ hMs) (hK.ms [true, true, false, false] rfl) hE hS hFc hU hW⟩ rfl rfl hl.1 rfl (lv_room (Nat.le_of_ble_eq_true rfl)) dX7_courtLine_27 ⟨Nat.le_of_ble_eq_true rfl, Nat.le_of_ble_eq_true rfl⟩) hS (fun q _ h => hFc q h) hFc (fun u t H locs ht hvm hw hB hz1 hk1 hS => ?_)
      refine ex_6_6 hB (fun x_5477 x_5478 x_5479 x_5480 x_5481 f_5482 b_x_5478 b_x_5481 e_x_5477_0 e_x_5477_1 e_x_5477_2 e_x_5477_3 hB => ?_)
      obtain ⟨hP, hD⟩ := Bw.goN (ws' := [(oc7 oM iM_thrown rM_tape iM_taped iM_size x_5477 x_5478 x_5479 x_5480 x_5481 iM_fault iM_place iM_trouble rM_letters iM_failed iM_hasCourt rM_r rM_fresh rM_told rM_read rM_st rM_undone rM_kept iM_undos iM_images rM_fresher iM_fresherSize iM_scale iM_night rM_heardRow rM_cutRow iM_breaths iM_cutMany iM_allBreaths rM_trial rM_words iM_fewestBreaths iM_orderMany iM_orderSum iM_leastOrder rM_often iM_setMany iM_someOf iM_allOf iM_allWeight iM_enoughWeight iM_worthSum iM_firstRest iM_leastDrawn), (arI rM_tape kM_tape 900 fM_tape), (arI rM_letters kM_letters 8 f_5482), (arI rM_fresh kM_fresh 287 fM_fresh), (arI rM_read kM_read 90 fM_read)]) hB rfl ht hP hD _ hMs hk1 hFc rfl
      clear hz1 hk1 hvm ht hB hMs
      have hG := hG.trans (un6_eq e_x_5477_3)
      clear r_T
      refine lv_aload_n hx hb dX7_courtLine_30 rfl (lv_at hl 0 rfl) ?_
      refine va_get (D := (dC, dI)) (ci := 7) (v := .ref rM_fresh) (C := RX7) (T := TX7) (N := 48) hx hb hts inX7 hown hK hP 0 rfl rfl 16 (by decide) (hts _ wd_156) (fun _ h9 => h9) rfl dX7_courtLine_31 ?_
      refine lv_iconst (v := 0) hx hb dX7_courtLine_34 (by decide) ?_
      refine lv_aload_n hx hb dX7_courtLine_35 rfl (lv_at hl 0 rfl) ?_
      obtain ⟨sa_5483, vsa_5483, nsa_5483, fsa_5483, hnsa_5483, hnesa_5483, hfesa_5483, hRsa_5483, hSsa_5483⟩ := hE.2.2.1 (222, "slips", [115, 108, 105, 112, 115]) (by decide)
      have hG := hG.trans (lt_eq hnesa_5483)
      have hG := hG.trans (lt_eq hfesa_5483)
      refine va_ldcS hx hb hown hRsa_5483 dX7_courtLine_36 ?_
      refine lv_iconst (v := 0) hx hb dX7_courtLine_38 (by decide) ?_
      refine lv_bipush (v := 100) hx hb dX7_courtLine_39 (by decide) ?_
      have hMs := ml_of hD [true, true, true, false, false] (wc := [(oc7 oM iM_thrown rM_tape iM_taped iM_size x_5477 x_5478 x_5479 x_5480 x_5481 iM_fault iM_place iM_trouble rM_letters iM_failed iM_hasCourt rM_r rM_fresh rM_told rM_read rM_st rM_undone rM_kept iM_undos iM_images rM_fresher iM_fresherSize iM_scale iM_night rM_heardRow rM_cutRow iM_breaths iM_cutMany iM_allBreaths rM_trial rM_words iM_fewestBreaths iM_orderMany iM_orderSum iM_leastOrder rM_often iM_setMany iM_someOf iM_allOf iM_allWeight iM_enoughWeight iM_worthSum iM_firstRest iM_leastDrawn), (arI rM_tape kM_tape 900 fM_tape), (arI rM_letters kM_letters 8 f_5482)]) rfl
      have hFc := va_freeM hD hS hA _ hMs
      refine va_calli (va_runV (As := [.ref sa_5483, .int 0, .int 100]) (rest := [.int 0, .ref rM_fresh]) ⟨hx, hb, hml, hown, hts⟩ (tX7_after l dC dI _ oM iM_thrown rM_tape fM_tape kM_tape iM_taped iM_size x_5477 x_5478 x_5479 x_5480 x_5481 iM_fault iM_place iM_trouble rM_letters f_5482 kM_letters iM_failed iM_hasCourt rM_r rM_fresh rM_told rM_read rM_st rM_undone rM_kept iM_undos iM_images rM_fresher iM_fresherSize iM_scale iM_night rM_heardRow rM_cutRow iM_breaths iM_cutMany iM_allBreaths rM_trial rM_words iM_fewestBreaths iM_orderMany iM_orderSum iM_leastOrder rM_often iM_setMany iM_someOf iM_allOf iM_allWeight iM_enoughWeight iM_worthSum iM_firstRest iM_leastDrawn sa_5483 0 100 vsa_5483 nsa_5483 fsa_5483 b_iM_taped b_iM_size b_x_5478 b_x_5481 b_iM_failed b_iM_hasCourt b_iM_undos b_iM_images b_iM_scale b_iM_breaths b_iM_cutMany e_x_5477_1 (Nat.le_trans (Nat.le_of_eq hnesa_5483) (by decide)) (om_f028b7c4 kc_0 kc_100)) (cwV 3 hts (wd_V wd_434 wd_435 wd_436 wd_5 (wd_c wd_437)) rfl rfl rfl dv_yX7_after_3 ⟨Nat.le_of_ble_eq_true rfl, Nat.le_of_ble_eq_true rfl⟩) ⟨Pq.fb, recvX7 hK hP (q0 := 0) rfl, fun U hU hW => Pq.to (hP.ms _ hMs) (hD.ms _ hMs) (hK.ms [true, true, false, false] rfl) hSsa_5483 hE hS hFc hU hW⟩ rfl rfl hl.1 rfl (lv_room (Nat.le_of_ble_eq_true rfl)) dX7_courtLine_41 ⟨Nat.le_of_ble_eq_true rfl, Nat.le_of_ble_eq_true rfl⟩) hS (fun q _ h => hFc q h) hFc (fun r u t H locs ht hvm hw hB hz1 hk1 hS => ?_)
      have hru9 := hw.2
      have hw := hw.1
      refine ex_9_8 hB (fun x_5484 x_5485 x_5486 x_5487 x_5488 x_5489 x_5490 x_5491 f_5492 b_x_5485 b_x_5488 b_x_5491 e_x_5484_0 e_x_5484_1 e_x_5484_2 e_x_5484_3 e_x_5484_4 hB => ?_)
      obtain ⟨hP, hD⟩ := Bw.goN (ws' := [(oc7 oM iM_thrown rM_tape iM_taped iM_size x_5484 x_5485 x_5486 x_5487 x_5488 x_5489 x_5490 iM_trouble rM_letters x_5491 iM_hasCourt rM_r rM_fresh rM_told rM_read rM_st rM_undone rM_kept iM_undos iM_images rM_fresher iM_fresherSize iM_scale iM_night rM_heardRow rM_cutRow iM_breaths iM_cutMany iM_allBreaths rM_trial rM_words iM_fewestBreaths iM_orderMany iM_orderSum iM_leastOrder rM_often iM_setMany iM_someOf iM_allOf iM_allWeight iM_enoughWeight iM_worthSum iM_firstRest iM_leastDrawn), (arI rM_tape kM_tape 900 fM_tape), (arI rM_letters kM_letters 8 f_5492), (arI rM_fresh kM_fresh 287 fM_fresh), (arI rM_read kM_read 90 fM_read)]) hB rfl ht hP hD _ hMs hk1 hFc rfl
      clear hz1 hk1 hvm ht hB hMs
      rw [← hru9] at e_x_5484_4
      obtain ⟨x_5493, rfl⟩ : ∃ z, z = r := ⟨_, rfl⟩
      have hG := hG.trans (un10_eq e_x_5484_4)
      have lx_5493 := hw.2
      have kl_0 := kc_0
      have kl_100 := kc_100
      clear e_x_5477_1
      clear e_x_5477_2
      refine va_iast hx hb hK hP hD hS 3 2 rfl rfl (by unfold vp_in; decide) dX7_courtLine_44 (fun H locs hP hD hS => ?_)
      obtain ⟨f_5494, ef_5494⟩ : ∃ g : Nat → Int32, g = upd fM_fresh (0 : Int32).toNatClampNeg x_5493 := ⟨_, rfl⟩
      rw [← ef_5494] at hP hD
      have hG := hG.trans (lt_eq ef_5494)
      obtain ⟨hP, hD⟩ := wl2 (ws' := [(oc7 oM iM_thrown rM_tape iM_taped iM_size x_5484 x_5485 x_5486 x_5487 x_5488 x_5489 x_5490 iM_trouble rM_letters x_5491 iM_hasCourt rM_r rM_fresh rM_told rM_read rM_st rM_undone rM_kept iM_undos iM_images rM_fresher iM_fresherSize iM_scale iM_night rM_heardRow rM_cutRow iM_breaths iM_cutMany iM_allBreaths rM_trial rM_words iM_fewestBreaths iM_orderMany iM_orderSum iM_leastOrder rM_often iM_setMany iM_someOf iM_allOf iM_allWeight iM_enoughWeight iM_worthSum iM_firstRest iM_leastDrawn), (arI rM_tape kM_tape 900 fM_tape), (arI rM_letters kM_letters 8 f_5492), (arI rM_fresh kM_fresh 287 f_5494), (arI rM_read kM_read 90 fM_read)]) hP hD rfl
      have pk_f_5494 : POk f_5494 fM_read := POk.put r_P ef_5494 (Or.inl (by have q9 : ((0 : Int32).toNatClampNeg : Nat) = 0 := rfl; omega))
      have pl_f_5494 := pk_f_5494.lins
      refine lv_aload_n hx hb dX7_courtLine_45 rfl (lv_at hl 0 rfl) ?_
      refine va_get (D := (dC, dI)) (ci := 7) (v := .int x_5491) (C := RX7) (T := TX7) (N := 48) hx hb hts inX7 hown hK hP 0 rfl rfl 13 (by decide) (hts _ wd_380) (fun _ h9 => h9) rfl dX7_courtLine_46 ?_
      refine lv_if_ne (tgt := 59) hx hb dX7_courtLine_49 (by decide) (fun c_5495 => ?_) (fun c_5495 => ?_)
      · skip
        have hG := hG.trans (if_neg c_5495)
        have gc_5495 := ti_ne c_5495 rfl kc_0
        replace gc_5495 : (-1) * x_5491.toInt + 1 ≤ 0 := om_e3003f79 gc_5495 b_x_5491.1
        exact wq_v hx hb hr 0 trivial (fun t ht hW => ⟨x_5484, x_5485, x_5486, x_5487, x_5488, x_5489, x_5490, x_5491, f_5492, f_5494, b_x_5485, b_x_5488, b_x_5491, (om_9348f5ae e_x_5477_0 e_x_5484_0), e_x_5484_1, (om_1fc3dec6 gc_5476 b_x_5491.1), (fun h9 => False.elim (om_a5fe015d gc_5495 h9.1)), pk_f_5494, hG, Bw.to hP hD hK ht hW⟩) hS dX7_courtLine_59 hlocks
      · skip
        have hG := hG.trans (if_pos c_5495)
        have gc_5495 := ti_eq c_5495 rfl kc_0
        refine lv_aload_n hx hb dX7_courtLine_52 rfl (lv_at hl 0 rfl) ?_
        refine va_get (D := (dC, dI)) (ci := 7) (v := .ref rM_fresh) (C := RX7) (T := TX7) (N := 48) hx hb hts inX7 hown hK hP 0 rfl rfl 16 (by decide) (hts _ wd_156) (fun _ h9 => h9) rfl dX7_courtLine_53 ?_
        refine lv_iconst (v := 5) hx hb dX7_courtLine_56 (by decide) ?_
        refine lv_iconst (v := 1) hx hb dX7_courtLine_57 (by decide) ?_
        refine va_iast hx hb hK hP hD hS 3 2 rfl rfl (by unfold vp_in; decide) dX7_courtLine_58 (fun H locs hP hD hS => ?_)
        obtain ⟨f_5496, ef_5496⟩ : ∃ g : Nat → Int32, g = upd f_5494 (5 : Int32).toNatClampNeg (1 : Int32) := ⟨_, rfl⟩
        rw [← ef_5496] at hP hD
        have hG := hG.trans (lt_eq ef_5496)
        obtain ⟨hP, hD⟩ := wl2 (ws' := [(oc7 oM iM_thrown rM_tape iM_taped iM_size x_5484 x_5485 x_5486 x_5487 x_5488 x_5489 x_5490 iM_trouble rM_letters x_5491 iM_hasCourt rM_r rM_fresh rM_told rM_read rM_st rM_undone rM_kept iM_undos iM_images rM_fresher iM_fresherSize iM_scale iM_night rM_heardRow rM_cutRow iM_breaths iM_cutMany iM_allBreaths rM_trial rM_words iM_fewestBreaths iM_orderMany iM_orderSum iM_leastOrder rM_often iM_setMany iM_someOf iM_allOf iM_allWeight iM_enoughWeight iM_worthSum iM_firstRest iM_leastDrawn), (arI rM_tape kM_tape 900 fM_tape), (arI rM_letters kM_letters 8 f_5492), (arI rM_fresh kM_fresh 287 f_5496), (arI rM_read kM_read 90 fM_read)]) hP hD rfl
        have pk_f_5496 : POk f_5496 fM_read := POk.put pk_f_5494 ef_5496 (Or.inr (Or.inr (Or.inl (by have q9 : ((5 : Int32).toNatClampNeg : Nat) = 5 := rfl; have q8 := kc_1; omega))))
        have pl_f_5496 := pk_f_5496.lins
        exact wq_v hx hb hr 0 trivial (fun t ht hW => ⟨x_5484, x_5485, x_5486, x_5487, x_5488, x_5489, x_5490, x_5491, f_5492, f_5496, b_x_5485, b_x_5488, b_x_5491, (om_9348f5ae e_x_5477_0 e_x_5484_0), e_x_5484_1, (om_1fc3dec6 gc_5476 b_x_5491.1), (fun h9 => (om_7ed234da e_x_5477_0 (e_x_5484_3 ⟨(om_02e9bb08 gc_5495), h9.2⟩))), pk_f_5496, hG, Bw.to hP hD hK ht hW⟩) hS dX7_courtLine_59 hlocks
    · skip
      have hG := hG.trans (if_neg c_5476)
      have gc_5476 := ti_ne c_5476 rfl kc_0
      replace gc_5476 : (-1) * iM_failed.toInt + 1 ≤ 0 := om_e3003f79 gc_5476 b_iM_failed.1
      exact wq_v hx hb hr 0 trivial (fun t ht hW => ⟨iM_at, iM_end, iM_token, iM_whole, iM_nameSize, iM_fault, iM_place, iM_failed, fM_letters, fM_fresh, ⟨b_iM_end.1, b_iM_end.2⟩, ⟨b_iM_nameSize.1, b_iM_nameSize.2⟩, ⟨b_iM_failed.1, b_iM_failed.2⟩, om_1cb5f934, r_T, om_1cb5f934, (fun h9 => False.elim (om_a5fe015d gc_5476 h9.1)), r_P, hG, Bw.to hP hD hK ht hW⟩) hS dX7_courtLine_25 hlocks
  · skip
    have hG := hG.trans (if_neg c_5475)
    have gc_5475 := ti_nle c_5475 rfl kc_0
    refine lv_aload_n hx hb dX7_courtLine_9 rfl (lv_at hl 0 rfl) ?_
    refine lv_iconst (v := 3) hx hb dX7_courtLine_10 (by decide) ?_
    refine lv_aload_n hx hb dX7_courtLine_11 rfl (lv_at hl 0 rfl) ?_
    refine va_get (D := (dC, dI)) (ci := 7) (v := .int iM_at) (C := RX7) (T := TX7) (N := 48) hx hb hts inX7 hown hK hP 0 rfl rfl 4 (by decide) (hts _ wd_384) (fun _ h9 => h9) rfl dX7_courtLine_12 ?_
    have hMs := ml_of hD [true, false, false, false, false] (wc := [(oc7 oM iM_thrown rM_tape iM_taped iM_size iM_at iM_end iM_token iM_whole iM_nameSize iM_fault iM_place iM_trouble rM_letters iM_failed iM_hasCourt rM_r rM_fresh rM_told rM_read rM_st rM_undone rM_kept iM_undos iM_images rM_fresher iM_fresherSize iM_scale iM_night rM_heardRow rM_cutRow iM_breaths iM_cutMany iM_allBreaths rM_trial rM_words iM_fewestBreaths iM_orderMany iM_orderSum iM_leastOrder rM_often iM_setMany iM_someOf iM_allOf iM_allWeight iM_enoughWeight iM_worthSum iM_firstRest iM_leastDrawn)]) rfl
    have hFc := va_freeM hD hS hA _ hMs
    refine va_callv (va_runV (As := [.int 3, .int iM_at]) (rest := []) ⟨hx, hb, hml, hown, hts⟩ (tX7_wrong l dC dI _ oM iM_thrown rM_tape iM_taped iM_size iM_at iM_end iM_token iM_whole iM_nameSize iM_fault iM_place iM_trouble rM_letters iM_failed iM_hasCourt rM_r rM_fresh rM_told rM_read rM_st rM_undone rM_kept iM_undos iM_images rM_fresher iM_fresherSize iM_scale iM_night rM_heardRow rM_cutRow iM_breaths iM_cutMany iM_allBreaths rM_trial rM_words iM_fewestBreaths iM_orderMany iM_orderSum iM_leastOrder rM_often iM_setMany iM_someOf iM_allOf iM_allWeight iM_enoughWeight iM_worthSum iM_firstRest iM_leastDrawn 3 iM_at b_iM_taped b_iM_size b_iM_end b_iM_nameSize b_iM_failed b_iM_hasCourt b_iM_undos b_iM_images b_iM_scale b_iM_breaths b_iM_cutMany r_T) (cwV 2 hts (wd_V wd_430 wd_431 wd_432 wd_5 (wd_c wd_433)) rfl rfl rfl dv_yX7_wrong_2 ⟨Nat.le_of_ble_eq_true rfl, Nat.le_of_ble_eq_true rfl⟩) ⟨Pw.fb, recvX7 hK hP (q0 := 0) rfl, fun U hU hW => Pw.to (hP.ms _ hMs) (hD.ms _ hMs) (hK.ms [false, false, false, false] rfl) hE hS hFc hU hW⟩ rfl rfl hl.1 rfl (lv_room (Nat.le_of_ble_eq_true rfl)) dX7_courtLine_15 ⟨Nat.le_of_ble_eq_true rfl, Nat.le_of_ble_eq_true rfl⟩) hS (fun q _ h => hFc q h) hFc (fun u t H locs ht hvm hw hB hz1 hk1 hS => ?_)
    refine ex_3_3 hB (fun x_5497 x_5498 x_5499 b_x_5499 e_x_5497_0 e_x_5497_1 hB => ?_)
    obtain ⟨hP, hD⟩ := Bw.goN (ws' := [(oc7 oM iM_thrown rM_tape iM_taped iM_size iM_at iM_end iM_token iM_whole iM_nameSize x_5497 x_5498 iM_trouble rM_letters x_5499 iM_hasCourt rM_r rM_fresh rM_told rM_read rM_st rM_undone rM_kept iM_undos iM_images rM_fresher iM_fresherSize iM_scale iM_night rM_heardRow rM_cutRow iM_breaths iM_cutMany iM_allBreaths rM_trial rM_words iM_fewestBreaths iM_orderMany iM_orderSum iM_leastOrder rM_often iM_setMany iM_someOf iM_allOf iM_allWeight iM_enoughWeight iM_worthSum iM_firstRest iM_leastDrawn), (arI rM_tape kM_tape 900 fM_tape), (arI rM_letters kM_letters 8 fM_letters), (arI rM_fresh kM_fresh 287 fM_fresh), (arI rM_read kM_read 90 fM_read)]) hB rfl ht hP hD _ hMs hk1 hFc rfl
    clear hz1 hk1 hvm ht hB hMs
    have hG := hG.trans (un3_eq e_x_5497_1)
    refine lv_aload_n hx hb dX7_courtLine_18 rfl (lv_at hl 0 rfl) ?_
    refine va_get (D := (dC, dI)) (ci := 7) (v := .int x_5499) (C := RX7) (T := TX7) (N := 48) hx hb hts inX7 hown hK hP 0 rfl rfl 13 (by decide) (hts _ wd_380) (fun _ h9 => h9) rfl dX7_courtLine_19 ?_
    refine lv_if_eq (tgt := 26) hx hb dX7_courtLine_22 (by decide) (fun c_5500 => ?_) (fun c_5500 => ?_)
    · skip
      have hG := hG.trans (if_pos c_5500)
      have gc_5500 := ti_eq c_5500 rfl kc_0
      exact ((om_b1155cdc e_x_5497_0 gc_5500)).elim
    · skip
      have hG := hG.trans (if_neg c_5500)
      have gc_5500 := ti_ne c_5500 rfl kc_0
      replace gc_5500 : (-1) * x_5499.toInt + 1 ≤ 0 := om_e3003f79 gc_5500 b_x_5499.1
      exact wq_v hx hb hr 0 trivial (fun t ht hW => ⟨iM_at, iM_end, iM_token, iM_whole, iM_nameSize, x_5497, x_5498, x_5499, fM_letters, fM_fresh, ⟨b_iM_end.1, b_iM_end.2⟩, ⟨b_iM_nameSize.1, b_iM_nameSize.2⟩, b_x_5499, om_1cb5f934, r_T, (om_00f1c5dd b_iM_failed.2 e_x_5497_0), (fun h9 => False.elim (om_92495247 e_x_5497_0 h9.1)), r_P, hG, Bw.to hP hD hK ht hW⟩) hS dX7_courtLine_25 hlocks
set_option maxHeartbeats 4000000 in
set_option maxRecDepth 100000 in
theorem tX7_wordLine (l : Launch) (dC : Nat → ClassId) (dI : Nat → Nat → Nat) (sz : Nat) (oM : Nat) (iM_thrown : Int32) (rM_tape : Nat) (fM_tape : Nat → Int32) (kM_tape : ClassId) (iM_taped : Int32) (iM_size : Int32) (iM_at : Int32) (iM_end : Int32) (iM_token : Int32) (iM_whole : Int32) (iM_nameSize : Int32) (iM_fault : Int32) (iM_place : Int32) (iM_trouble : Int32) (rM_letters : Nat) (fM_letters : Nat → Int32) (kM_letters : ClassId) (iM_failed : Int32) (iM_hasCourt : Int32) (rM_r : Nat) (rM_fresh : Nat) (fM_fresh : Nat → Int32) (kM_fresh : ClassId) (rM_told : Nat) (rM_read : Nat) (fM_read : Nat → Int32) (kM_read : ClassId) (rM_st : Nat) (rM_undone : Nat) (rM_kept : Nat) (iM_undos : Int32) (iM_images : Int32) (rM_fresher : Nat) (fM_fresher : Nat → Int32) (kM_fresher : ClassId) (iM_fresherSize : Int32) (iM_scale : Int32) (iM_night : Int32) (rM_heardRow : Nat) (rM_cutRow : Nat) (iM_breaths : Int32) (iM_cutMany : Int32) (iM_allBreaths : Int32) (rM_trial : Nat) (rM_words : Nat) (iM_fewestBreaths : Int32) (iM_orderMany : Int32) (iM_orderSum : Int32) (iM_leastOrder : Int32) (rM_often : Nat) (iM_setMany : Int32) (iM_someOf : Int32) (iM_allOf : Int32) (iM_allWeight : Int64) (iM_enoughWeight : Int64) (iM_worthSum : Int64) (iM_firstRest : Int32) (iM_leastDrawn : Int32) (b_iM_taped : 0 ≤ iM_taped.toInt ∧ iM_taped.toInt ≤ 900) (b_iM_size : 0 ≤ iM_size.toInt ∧ iM_size.toInt ≤ 900) (b_iM_end : 0 ≤ iM_end.toInt ∧ iM_end.toInt ≤ 900) (b_iM_nameSize : 0 ≤ iM_nameSize.toInt ∧ iM_nameSize.toInt ≤ 900) (b_iM_failed : 0 ≤ iM_failed.toInt ∧ iM_failed.toInt ≤ 1) (b_iM_hasCourt : 0 ≤ iM_hasCourt.toInt ∧ iM_hasCourt.toInt ≤ 1) (b_iM_undos : 0 ≤ iM_undos.toInt ∧ iM_undos.toInt ≤ 16) (b_iM_images : 0 ≤ iM_images.toInt ∧ iM_images.toInt ≤ 3) (b_iM_scale : 1 ≤ iM_scale.toInt ∧ iM_scale.toInt ≤ 1296) (b_iM_breaths : 0 ≤ iM_breaths.toInt ∧ iM_breaths.toInt ≤ 399) (b_iM_cutMany : 0 ≤ iM_cutMany.toInt ∧ iM_cutMany.toInt ≤ 399) (r_T : ImpP (iM_token.toInt = 2) (iM_nameSize.toInt ≤ 8)) (r_P : POk fM_fresh fM_read) (hwl : ImpP (iM_failed.toInt ≤ 0) ((fM_fresh 2).toInt ≤ 9)) : Met l yX7_wordLine (Cond.code yX7_wordLine cX7_wordLine 2 none :: wG) ({ frames := 8, cells := 0, slots := 0, locals := 199 }) (va_Pc [.ref oM] (Pw dC dI sz [(oc7 oM iM_thrown rM_tape iM_taped iM_size iM_at iM_end iM_token iM_whole iM_nameSize iM_fault iM_place iM_trouble rM_letters iM_failed iM_hasCourt rM_r rM_fresh rM_told rM_read rM_st rM_undone rM_kept iM_undos iM_images rM_fresher iM_fresherSize iM_scale iM_night rM_heardRow rM_cutRow iM_breaths iM_cutMany iM_allBreaths rM_trial rM_words iM_fewestBreaths iM_orderMany iM_orderSum iM_leastOrder rM_often iM_setMany iM_someOf iM_allOf iM_allWeight iM_enoughWeight iM_worthSum iM_firstRest iM_leastDrawn), (arI rM_tape kM_tape 900 fM_tape), (arI rM_letters kM_letters 8 fM_letters), (arI rM_fresh kM_fresh 287 fM_fresh), (arI rM_read kM_read 90 fM_read), (arI rM_fresher kM_fresher 8 fM_fresher)] [(kM_tape, .int), (kM_letters, .int), (kM_fresh, .int), (kM_read, .int), (kM_fresher, .int)])) (va_Qv (fun (_ : Nat) => True) (fun (_ : Nat) (t : State) => ∃ (niM_at : Int32) (niM_end : Int32) (niM_token : Int32) (niM_whole : Int32) (niM_nameSize : Int32) (niM_fault : Int32) (niM_place : Int32) (niM_failed : Int32) (niM_fresherSize : Int32) (nfM_letters : Nat → Int32) (nfM_fresh : Nat → Int32) (nfM_read : Nat → Int32) (nfM_fresher : Nat → Int32), (0 ≤ niM_end.toInt ∧ niM_end.toInt ≤ 900) ∧ (0 ≤ niM_nameSize.toInt ∧ niM_nameSize.toInt ≤ 900) ∧ (0 ≤ niM_failed.toInt ∧ niM_failed.toInt ≤ 1) ∧ (iM_end.toInt ≤ niM_end.toInt) ∧ (ImpP (niM_token.toInt = 2) (niM_nameSize.toInt ≤ 8)) ∧ (iM_failed.toInt ≤ niM_failed.toInt) ∧ (ImpP (niM_failed.toInt ≤ 0 ∧ niM_token.toInt = 59 ) (iM_end.toInt + 1 ≤ niM_end.toInt)) ∧ (POk nfM_fresh nfM_read) ∧ (PX7_wordLine fM_tape iM_size iM_at iM_end iM_token iM_whole iM_nameSize iM_fault iM_place fM_letters iM_failed fM_fresh fM_read fM_fresher iM_fresherSize = (niM_at, niM_end, niM_token, niM_whole, niM_nameSize, niM_fault, niM_place, niM_failed, niM_fresherSize, nfM_letters, nfM_fresh, nfM_read, nfM_fresher)) ∧ Bw dC dI (va_A [(oc7 oM iM_thrown rM_tape iM_taped iM_size iM_at iM_end iM_token iM_whole iM_nameSize iM_fault iM_place iM_trouble rM_letters iM_failed iM_hasCourt rM_r rM_fresh rM_told rM_read rM_st rM_undone rM_kept iM_undos iM_images rM_fresher iM_fresherSize iM_scale iM_night rM_heardRow rM_cutRow iM_breaths iM_cutMany iM_allBreaths rM_trial rM_words iM_fewestBreaths iM_orderMany iM_orderSum iM_leastOrder rM_often iM_setMany iM_someOf iM_allOf iM_allWeight iM_enoughWeight iM_worthSum iM_firstRest iM_leastDrawn), (arI rM_tape kM_tape 900 fM_tape), (arI rM_letters kM_letters 8 fM_letters), (arI rM_fresh kM_fresh 287 fM_fresh), (arI rM_read kM_read 90 fM_read), (arI rM_fresher kM_fresher 8 fM_fresher)] sz) [(oc7 oM iM_thrown rM_tape iM_taped iM_size niM_at niM_end niM_token niM_whole niM_nameSize niM_fault niM_place iM_trouble rM_letters niM_failed iM_hasCourt rM_r rM_fresh rM_told rM_read rM_st rM_undone rM_kept iM_undos iM_images rM_fresher niM_fresherSize iM_scale iM_night rM_heardRow rM_cutRow iM_breaths iM_cutMany iM_allBreaths rM_trial rM_words iM_fewestBreaths iM_orderMany iM_orderSum iM_leastOrder rM_often iM_setMany iM_someOf iM_allOf iM_allWeight iM_enoughWeight iM_worthSum iM_firstRest iM_leastDrawn), (arI rM_tape kM_tape 900 fM_tape), (arI rM_letters kM_letters 8 nfM_letters), (arI rM_fresh kM_fresh 287 nfM_fresh), (arI rM_read kM_read 90 nfM_read), (arI rM_fresher kM_fresher 8 nfM_fresher)] [(kM_tape, .int), (kM_letters, .int), (kM_fresh, .int), (kM_read, .int), (kM_fresher, .int)] t) (va_A [(oc7 oM iM_thrown rM_tape iM_taped iM_size iM_at iM_end iM_token iM_whole iM_nameSize iM_fault iM_place iM_trouble rM_letters iM_failed iM_hasCourt rM_r rM_fresh rM_told rM_read rM_st rM_undone rM_kept iM_undos iM_images rM_fresher iM_fresherSize iM_scale iM_night rM_heardRow rM_cutRow iM_breaths iM_cutMany iM_allBreaths rM_trial rM_words iM_fewestBreaths iM_orderMany iM_orderSum iM_leastOrder rM_often iM_setMany iM_someOf iM_allOf iM_allWeight iM_enoughWeight iM_worthSum iM_firstRest iM_leastDrawn), (arI rM_tape kM_tape 900 fM_tape), (arI rM_letters kM_letters 8 fM_letters), (arI rM_fresh kM_fresh 287 fM_fresh), (arI rM_read kM_read 90 fM_read), (arI rM_fresher kM_fresher 8 fM_fresher)] sz)) 0 0 (va_A [(oc7 oM iM_thrown rM_tape iM_taped iM_size iM_at iM_end iM_token iM_whole iM_nameSize iM_fault iM_place iM_trouble rM_letters iM_failed iM_hasCourt rM_r rM_fresh rM_told rM_read rM_st rM_undone rM_kept iM_undos iM_images rM_fresher iM_fresherSize iM_scale iM_night rM_heardRow rM_cutRow iM_breaths iM_cutMany iM_allBreaths rM_trial rM_words iM_fewestBreaths iM_orderMany iM_orderSum iM_leastOrder rM_often iM_setMany iM_someOf iM_allOf iM_allWeight iM_enoughWeight iM_worthSum iM_firstRest iM_leastDrawn), (arI rM_tape kM_tape 900 fM_tape), (arI rM_letters kM_letters 8 fM_letters), (arI rM_fresh kM_fresh 287 fM_fresh), (arI rM_read kM_read 90 fM_read), (arI rM_fresher kM_fresher 8 fM_fresher)] sz) := by
  refine Met.ofW (cc := cX7_wordLine) (maxL := 2) (ret := none) pnX7 rfl ?_
  intro p e s m args below meth c s₁ B hml hv
  obtain ⟨rfl, hsz, hP, hK, hD0, hE⟩ := hv
  have hx := B.exec
  have hb := B.bytes
  have hr := B.returns
  have hts : ∀ w ∈ wG, w.before ([.ref oM] : List Value).toArray s = true := fun w h => atoms_spec (ws := Cond.code yX7_wordLine cX7_wordLine 2 none :: wG) B.pre w (List.mem_cons_of_mem _ h)
  have hown : s.vm.findClass RX7 = some m.cls := own_of B.named rfl
  have hlocks := B.notSynchronized
  subst hsz
  have hD := hD0.self (sz := s.heap.size)
  generalize hAe : va_A [(oc7 oM iM_thrown rM_tape iM_taped iM_size iM_at iM_end iM_token iM_whole iM_nameSize iM_fault iM_place iM_trouble rM_letters iM_failed iM_hasCourt rM_r rM_fresh rM_told rM_read rM_st rM_undone rM_kept iM_undos iM_images rM_fresher iM_fresherSize iM_scale iM_night rM_heardRow rM_cutRow iM_breaths iM_cutMany iM_allBreaths rM_trial rM_words iM_fewestBreaths iM_orderMany iM_orderSum iM_leastOrder rM_often iM_setMany iM_someOf iM_allOf iM_allWeight iM_enoughWeight iM_worthSum iM_firstRest iM_leastDrawn), (arI rM_tape kM_tape 900 fM_tape), (arI rM_letters kM_letters 8 fM_letters), (arI rM_fresh kM_fresh 287 fM_fresh), (arI rM_read kM_read 90 fM_read), (arI rM_fresher kM_fresher 8 fM_fresher)] s.heap.size = A at hD hE ⊢
  have hA : ∀ q : Nat, s.heap.size ≤ q → A q := fun q h => by rw [← hAe]; exact Or.inr h
  have hS : va_S A s.heap s.heap [] := va_S.rf
  have hl := lv_entry ([.ref oM]) (n := 2) (Nat.le_of_ble_eq_true rfl)
  rw [lg_entry_eq]
  generalize (lg_sl ([.ref oM]) ++ List.replicate (2 - (lg_sl ([.ref oM])).length) Slot.unset).toArray = ls at hl ⊢
  have hl : lv_has ls 2 [(0, .ref oM)] := hl
  have hG := PX7_wordLine_eq fM_tape iM_size iM_at iM_end iM_token iM_whole iM_nameSize iM_fault iM_place fM_letters iM_failed fM_fresh fM_read fM_fresher iM_fresherSize
  have pl_fM_fresh := r_P.lins
  refine lv_aload_n hx hb dX7_wordLine_0 rfl (lv_at hl 0 rfl) ?_
  refine va_get (D := (dC, dI)) (ci := 7) (v := .int iM_failed) (C := RX7) (T := TX7) (N := 48) hx hb hts inX7 hown hK hP 0 rfl rfl 13 (by decide) (hts _ wd_380) (fun _ h9 => h9) rfl dX7_wordLine_1 ?_
  refine lv_if_eq (tgt := 8) hx hb dX7_wordLine_4 (by decide) (fun c_5533 => ?_) (fun c_5533 => ?_)
  · skip
    have hG := hG.trans (if_pos c_5533)
    have gc_5533 := ti_eq c_5533 rfl kc_0
    have h_5534 : (fM_fresh 2).toInt ≤ 9 := hwl (om_02e9bb08 gc_5533)
    clear hwl
    refine lv_aload_n hx hb dX7_wordLine_8 rfl (lv_at hl 0 rfl) ?_
    have hFc := va_freeI hD hS hA
    refine va_callv (va_runV (As := []) (rest := []) ⟨hx, hb, hml, hown, hts⟩ (tX7_newName l dC dI _ oM iM_thrown rM_tape fM_tape kM_tape iM_taped iM_size iM_at iM_end iM_token iM_whole iM_nameSize iM_fault iM_place iM_trouble rM_letters fM_letters kM_letters iM_failed iM_hasCourt rM_r rM_fresh fM_fresh kM_fresh rM_told rM_read fM_read kM_read rM_st rM_undone rM_kept iM_undos iM_images rM_fresher fM_fresher kM_fresher iM_fresherSize iM_scale iM_night rM_heardRow rM_cutRow iM_breaths iM_cutMany iM_allBreaths rM_trial rM_words iM_fewestBreaths iM_orderMany iM_orderSum iM_leastOrder rM_often iM_setMany iM_someOf iM_allOf iM_allWeight iM_enoughWeight iM_worthSum iM_firstRest iM_leastDrawn b_iM_taped b_iM_size b_iM_end b_iM_nameSize b_iM_failed b_iM_hasCourt b_iM_undos b_iM_images b_iM_scale b_iM_breaths b_iM_cutMany r_T r_P) (cwV 0 hts (wd_V wd_462 wd_463 wd_464 wd_5 (wd_c wd_465)) rfl rfl rfl dv_yX7_newName_0 ⟨Nat.le_of_ble_eq_true rfl, Nat.le_of_ble_eq_true rfl⟩) ⟨Pw.fb, recvX7 hK hP (q0 := 0) rfl, fun U hU hW => Pw.to hP hD hK hE hS hFc hU hW⟩ rfl rfl hl.1 rfl (lv_room (Nat.le_of_ble_eq_true rfl)) dX7_wordLine_9 ⟨Nat.le_of_ble_eq_true rfl, Nat.le_of_ble_eq_true rfl⟩) hS (fun q _ h => hFc q h) hFc (fun u t H locs ht hvm hw hB hz1 hk1 hS => ?_)
    refine ex_11_8 hB (fun x_5535 x_5536 x_5537 x_5538 x_5539 x_5540 x_5541 x_5542 x_5543 f_5544 f_5545 b_x_5536 b_x_5539 b_x_5542 e_x_5535_0 e_x_5535_1 e_x_5535_2 e_x_5535_3 e_x_5535_4 hB => ?_)
    obtain ⟨hP, hD⟩ := Bw.goA (ws' := [(oc7 oM iM_thrown rM_tape iM_taped iM_size x_5535 x_5536 x_5537 x_5538 x_5539 x_5540 x_5541 iM_trouble rM_letters x_5542 iM_hasCourt rM_r rM_fresh rM_told rM_read rM_st rM_undone rM_kept iM_undos iM_images rM_fresher x_5543 iM_scale iM_night rM_heardRow rM_cutRow iM_breaths iM_cutMany iM_allBreaths rM_trial rM_words iM_fewestBreaths iM_orderMany iM_orderSum iM_leastOrder rM_often iM_setMany iM_someOf iM_allOf iM_allWeight iM_enoughWeight iM_worthSum iM_firstRest iM_leastDrawn), (arI rM_tape kM_tape 900 fM_tape), (arI rM_letters kM_letters 8 f_5544), (arI rM_fresh kM_fresh 287 fM_fresh), (arI rM_read kM_read 90 fM_read), (arI rM_fresher kM_fresher 8 f_5545)]) hB rfl ht hFc rfl
    clear hz1 hk1 hvm ht hB
    have hG := hG.trans (un11_eq e_x_5535_4)
    clear r_T
    refine lv_aload_n hx hb dX7_wordLine_12 rfl (lv_at hl 0 rfl) ?_
    obtain ⟨sa_5546, vsa_5546, nsa_5546, fsa_5546, hnsa_5546, hnesa_5546, hfesa_5546, hRsa_5546, hSsa_5546⟩ := hE.2.2.1 (231, "worth", [119, 111, 114, 116, 104]) (by decide)
    have hG := hG.trans (lt_eq hnesa_5546)
    have hG := hG.trans (lt_eq hfesa_5546)
    refine va_ldcS hx hb hown hRsa_5546 dX7_wordLine_13 ?_
    refine lv_iconst (v := 0) hx hb dX7_wordLine_15 (by decide) ?_
    refine lv_bipush (v := 99) hx hb dX7_wordLine_16 (by decide) ?_
    have hMs := ml_of hD [true, true, true, false, false, false] (wc := [(oc7 oM iM_thrown rM_tape iM_taped iM_size x_5535 x_5536 x_5537 x_5538 x_5539 x_5540 x_5541 iM_trouble rM_letters x_5542 iM_hasCourt rM_r rM_fresh rM_told rM_read rM_st rM_undone rM_kept iM_undos iM_images rM_fresher x_5543 iM_scale iM_night rM_heardRow rM_cutRow iM_breaths iM_cutMany iM_allBreaths rM_trial rM_words iM_fewestBreaths iM_orderMany iM_orderSum iM_leastOrder rM_often iM_setMany iM_someOf iM_allOf iM_allWeight iM_enoughWeight iM_worthSum iM_firstRest iM_leastDrawn), (arI rM_tape kM_tape 900 fM_tape), (arI rM_letters kM_letters 8 f_5544)]) rfl
    have hFc := va_freeM hD hS hA _ hMs
    refine va_calli (va_runV (As := [.ref sa_5546, .int 0, .int 99]) (rest := []) ⟨hx, hb, hml, hown, hts⟩ (tX7_after l dC dI _ oM iM_thrown rM_tape fM_tape kM_tape iM_taped iM_size x_5535 x_5536 x_5537 x_5538 x_5539 x_5540 x_5541 iM_trouble rM_letters f_5544 kM_letters x_5542 iM_hasCourt rM_r rM_fresh rM_told rM_read rM_st rM_undone rM_kept iM_undos iM_images rM_fresher x_5543 iM_scale iM_night rM_heardRow rM_cutRow iM_breaths iM_cutMany iM_allBreaths rM_trial rM_words iM_fewestBreaths iM_orderMany iM_orderSum iM_leastOrder rM_often iM_setMany iM_someOf iM_allOf iM_allWeight iM_enoughWeight iM_worthSum iM_firstRest iM_leastDrawn sa_5546 0 99 vsa_5546 nsa_5546 fsa_5546 b_iM_taped b_iM_size b_x_5536 b_x_5539 b_x_5542 b_iM_hasCourt b_iM_undos b_iM_images b_iM_scale b_iM_breaths b_iM_cutMany e_x_5535_1 (Nat.le_trans (Nat.le_of_eq hnesa_5546) (by decide)) (om_b0b40937 kc_0 kc_99)) (cwV 3 hts (wd_V wd_434 wd_435 wd_436 wd_5 (wd_c wd_437)) rfl rfl rfl dv_yX7_after_3 ⟨Nat.le_of_ble_eq_true rfl, Nat.le_of_ble_eq_true rfl⟩) ⟨Pq.fb, recvX7 hK hP (q0 := 0) rfl, fun U hU hW => Pq.to (hP.ms _ hMs) (hD.ms _ hMs) (hK.ms [true, true, false, false, false] rfl) hSsa_5546 hE hS hFc hU hW⟩ rfl rfl hl.1 rfl (lv_room (Nat.le_of_ble_eq_true rfl)) dX7_wordLine_18 ⟨Nat.le_of_ble_eq_true rfl, Nat.le_of_ble_eq_true rfl⟩) hS (fun q _ h => hFc q h) hFc (fun r u t H locs ht hvm hw hB hz1 hk1 hS => ?_)
    have hru9 := hw.2
    have hw := hw.1
    refine ex_9_8 hB (fun x_5547 x_5548 x_5549 x_5550 x_5551 x_5552 x_5553 x_5554 f_5555 b_x_5548 b_x_5551 b_x_5554 e_x_5547_0 e_x_5547_1 e_x_5547_2 e_x_5547_3 e_x_5547_4 hB => ?_)
    obtain ⟨hP, hD⟩ := Bw.goN (ws' := [(oc7 oM iM_thrown rM_tape iM_taped iM_size x_5547 x_5548 x_5549 x_5550 x_5551 x_5552 x_5553 iM_trouble rM_letters x_5554 iM_hasCourt rM_r rM_fresh rM_told rM_read rM_st rM_undone rM_kept iM_undos iM_images rM_fresher x_5543 iM_scale iM_night rM_heardRow rM_cutRow iM_breaths iM_cutMany iM_allBreaths rM_trial rM_words iM_fewestBreaths iM_orderMany iM_orderSum iM_leastOrder rM_often iM_setMany iM_someOf iM_allOf iM_allWeight iM_enoughWeight iM_worthSum iM_firstRest iM_leastDrawn), (arI rM_tape kM_tape 900 fM_tape), (arI rM_letters kM_letters 8 f_5555), (arI rM_fresh kM_fresh 287 fM_fresh), (arI rM_read kM_read 90 fM_read), (arI rM_fresher kM_fresher 8 f_5545)]) hB rfl ht hP hD _ hMs hk1 hFc rfl
    clear hz1 hk1 hvm ht hB hMs
    rw [← hru9] at e_x_5547_4
    obtain ⟨x_5556, rfl⟩ : ∃ z, z = r := ⟨_, rfl⟩
    have hG := hG.trans (un10_eq e_x_5547_4)
    have lx_5556 := hw.2
    have kl_0 := kc_0
    have kl_99 := kc_99
    clear e_x_5535_1
    clear e_x_5535_3
    refine lv_istore_n (lv' := [(1, .int x_5556), (0, .ref oM)]) hx hb dX7_wordLine_21 rfl hl (by decide) rfl (fun ls hl => ?_)
    refine lv_aload_n hx hb dX7_wordLine_22 rfl (lv_at hl 1 rfl) ?_
    refine va_get (D := (dC, dI)) (ci := 7) (v := .int x_5554) (C := RX7) (T := TX7) (N := 48) hx hb hts inX7 hown hK hP 0 rfl rfl 13 (by decide) (hts _ wd_380) (fun _ h9 => h9) rfl dX7_wordLine_23 ?_
    refine lv_if_eq (tgt := 30) hx hb dX7_wordLine_26 (by decide) (fun c_5557 => ?_) (fun c_5557 => ?_)
    · skip
      have hG := hG.trans (if_pos c_5557)
      have gc_5557 := ti_eq c_5557 rfl kc_0
      refine lv_aload_n hx hb dX7_wordLine_30 rfl (lv_at hl 1 rfl) ?_
      refine va_get (D := (dC, dI)) (ci := 7) (v := .ref rM_read) (C := RX7) (T := TX7) (N := 48) hx hb hts inX7 hown hK hP 0 rfl rfl 18 (by decide) (hts _ wd_158) (fun _ h9 => h9) rfl dX7_wordLine_31 ?_
      refine lv_bipush (v := 72) hx hb dX7_wordLine_34 (by decide) ?_
      refine lv_aload_n hx hb dX7_wordLine_36 rfl (lv_at hl 1 rfl) ?_
      refine va_get (D := (dC, dI)) (ci := 7) (v := .ref rM_fresh) (C := RX7) (T := TX7) (N := 48) hx hb hts inX7 hown hK hP 0 rfl rfl 16 (by decide) (hts _ wd_156) (fun _ h9 => h9) rfl dX7_wordLine_37 ?_
      refine lv_iconst (v := 1) hx hb dX7_wordLine_40 (by decide) ?_
      refine va_iald hx hb hK hP 3 2 rfl rfl (by unfold vp_in; decide) dX7_wordLine_41 ?_
      refine lv_topi (fun x_5558 ex_5558 => ?_)
      have hG := hG.trans (lt_eq ex_5558)
      have cx_5558 : (fM_fresh 1).toInt = x_5558.toInt := congrArg Int32.toInt (show fM_fresh 1 = x_5558 from ex_5558.symm)
      refine lv_iadd hx hb dX7_wordLine_42 ?_
      refine lv_topi (fun x_5559 ex_5559 => ?_)
      have hG := hG.trans (lt_eq ex_5559)
      have vx_5559 : x_5559.toInt = x_5558.toInt + 72 := om_2d0716db (ti_add ex_5559 kc_72 rfl (om_40b9b7fe pl_fM_fresh.2.2.2.2.1.1 pl_fM_fresh.2.2.2.2.1.2 cx_5558) (om_8e01d6bb pl_fM_fresh.2.1 pl_fM_fresh.2.2.1.2 pl_fM_fresh.2.2.2.2.2.1.2 cx_5558))
      refine lv_iload_n hx hb dX7_wordLine_43 rfl (lv_at hl 0 rfl) ?_
      refine va_iast hx hb hK hP hD hS 4 3 rfl rfl (ti_in vx_5559 (om_625b1eca pl_fM_fresh.2.2.2.2.1.1 pl_fM_fresh.2.2.2.2.1.2 cx_5558) (om_73529aab pl_fM_fresh.2.1 pl_fM_fresh.2.2.2.2.2.1.2 h_5534 cx_5558)) dX7_wordLine_44 (fun H locs hP hD hS => ?_)
      obtain ⟨f_5560, ef_5560⟩ : ∃ g : Nat → Int32, g = upd fM_read x_5559.toNatClampNeg x_5556 := ⟨_, rfl⟩
      rw [← ef_5560] at hP hD
      have hG := hG.trans (lt_eq ef_5560)
      obtain ⟨hP, hD⟩ := wl2 (ws' := [(oc7 oM iM_thrown rM_tape iM_taped iM_size x_5547 x_5548 x_5549 x_5550 x_5551 x_5552 x_5553 iM_trouble rM_letters x_5554 iM_hasCourt rM_r rM_fresh rM_told rM_read rM_st rM_undone rM_kept iM_undos iM_images rM_fresher x_5543 iM_scale iM_night rM_heardRow rM_cutRow iM_breaths iM_cutMany iM_allBreaths rM_trial rM_words iM_fewestBreaths iM_orderMany iM_orderSum iM_leastOrder rM_often iM_setMany iM_someOf iM_allOf iM_allWeight iM_enoughWeight iM_worthSum iM_firstRest iM_leastDrawn), (arI rM_tape kM_tape 900 fM_tape), (arI rM_letters kM_letters 8 f_5555), (arI rM_fresh kM_fresh 287 fM_fresh), (arI rM_read kM_read 90 f_5560), (arI rM_fresher kM_fresher 8 f_5545)]) hP hD rfl
      have pk_f_5560 : POk fM_fresh f_5560 := POk.wor r_P ef_5560 (by have q9 := ti_cl (x := x_5559) vx_5559 (om_625b1eca pl_fM_fresh.2.2.2.2.1.1 pl_fM_fresh.2.2.2.2.1.2 cx_5558); omega) (by omega) (by omega)
      refine lv_aload_n hx hb dX7_wordLine_45 rfl (lv_at hl 1 rfl) ?_
      refine lv_iconst (v := 0) hx hb dX7_wordLine_46 (by decide) ?_
      have hMs := ml_of hD [true, false, false, true, false, true] (wc := [(oc7 oM iM_thrown rM_tape iM_taped iM_size x_5547 x_5548 x_5549 x_5550 x_5551 x_5552 x_5553 iM_trouble rM_letters x_5554 iM_hasCourt rM_r rM_fresh rM_told rM_read rM_st rM_undone rM_kept iM_undos iM_images rM_fresher x_5543 iM_scale iM_night rM_heardRow rM_cutRow iM_breaths iM_cutMany iM_allBreaths rM_trial rM_words iM_fewestBreaths iM_orderMany iM_orderSum iM_leastOrder rM_often iM_setMany iM_someOf iM_allOf iM_allWeight iM_enoughWeight iM_worthSum iM_firstRest iM_leastDrawn), (arI rM_fresh kM_fresh 287 fM_fresh), (arI rM_fresher kM_fresher 8 f_5545)]) rfl
      have hFc := va_freeM hD hS hA _ hMs
      refine va_callv (va_runV (As := [.int 0]) (rest := []) ⟨hx, hb, hml, hown, hts⟩ (tX7_lay l dC dI _ oM iM_thrown rM_tape iM_taped iM_size x_5547 x_5548 x_5549 x_5550 x_5551 x_5552 x_5553 iM_trouble rM_letters x_5554 iM_hasCourt rM_r rM_fresh fM_fresh kM_fresh rM_told rM_read rM_st rM_undone rM_kept iM_undos iM_images rM_fresher f_5545 kM_fresher x_5543 iM_scale iM_night rM_heardRow rM_cutRow iM_breaths iM_cutMany iM_allBreaths rM_trial rM_words iM_fewestBreaths iM_orderMany iM_orderSum iM_leastOrder rM_often iM_setMany iM_someOf iM_allOf iM_allWeight iM_enoughWeight iM_worthSum iM_firstRest iM_leastDrawn 0 b_iM_taped b_iM_size b_x_5548 b_x_5551 b_x_5554 b_iM_hasCourt b_iM_undos b_iM_images b_iM_scale b_iM_breaths b_iM_cutMany e_x_5547_1 (om_02e9bb08 gc_5557) ⟨(om_18f2890d pl_fM_fresh.2.2.2.2.1.1 pl_fM_fresh.2.2.2.2.1.2), (om_24843d57 pl_fM_fresh.2.1 pl_fM_fresh.2.2.2.2.2.1.2 h_5534)⟩) (cwV 1 hts (wd_V wd_478 wd_479 wd_480 wd_5 (wd_c wd_481)) rfl rfl rfl dv_yX7_lay_1 ⟨Nat.le_of_ble_eq_true rfl, Nat.le_of_ble_eq_true rfl⟩) ⟨Pw.fb, recvX7 hK hP (q0 := 0) rfl, fun U hU hW => Pw.to (hP.ms _ hMs) (hD.ms _ hMs) (hK.ms [false, false, true, false, true] rfl) hE hS hFc hU hW⟩ rfl rfl hl.1 rfl (lv_room (Nat.le_of_ble_eq_true rfl)) dX7_wordLine_47 ⟨Nat.le_of_ble_eq_true rfl, Nat.le_of_ble_eq_true rfl⟩) hS (fun q _ h => hFc q h) hFc (fun u t H locs ht hvm hw hB hz1 hk1 hS => ?_)
      refine ex_1_2 hB (fun f_5561 e_f_5561_0 e_f_5561_1 hB => ?_)
      obtain ⟨hP, hD⟩ := Bw.goN (ws' := [(oc7 oM iM_thrown rM_tape iM_taped iM_size x_5547 x_5548 x_5549 x_5550 x_5551 x_5552 x_5553 iM_trouble rM_letters x_5554 iM_hasCourt rM_r rM_fresh rM_told rM_read rM_st rM_undone rM_kept iM_undos iM_images rM_fresher x_5543 iM_scale iM_night rM_heardRow rM_cutRow iM_breaths iM_cutMany iM_allBreaths rM_trial rM_words iM_fewestBreaths iM_orderMany iM_orderSum iM_leastOrder rM_often iM_setMany iM_someOf iM_allOf iM_allWeight iM_enoughWeight iM_worthSum iM_firstRest iM_leastDrawn), (arI rM_tape kM_tape 900 fM_tape), (arI rM_letters kM_letters 8 f_5555), (arI rM_fresh kM_fresh 287 f_5561), (arI rM_read kM_read 90 f_5560), (arI rM_fresher kM_fresher 8 f_5545)]) hB rfl ht hP hD _ hMs hk1 hFc rfl
      clear hz1 hk1 hvm ht hB hMs
      have o2_f_5561 : (f_5561 2).toInt = (fM_fresh 2).toInt := by rw [(e_f_5561_0).2.2.1 2 (by decide) (by decide) (Nat.ne_of_lt (Nat.lt_of_lt_of_le (by decide) (Nat.le_add_right 9 _)))]
      have o7_f_5561 : (f_5561 7).toInt = (fM_fresh 7).toInt := by rw [(e_f_5561_0).2.2.1 7 (by decide) (by decide) (Nat.ne_of_lt (Nat.lt_of_lt_of_le (by decide) (Nat.le_add_right 9 _)))]
      have o8_f_5561 : (f_5561 8).toInt = (fM_fresh 8).toInt := by rw [(e_f_5561_0).2.2.1 8 (by decide) (by decide) (Nat.ne_of_lt (Nat.lt_of_lt_of_le (by decide) (Nat.le_add_right 9 _)))]
      have hG := hG.trans (lt_eq e_f_5561_1.symm)
      refine lv_aload_n hx hb dX7_wordLine_50 rfl (lv_at hl 1 rfl) ?_
      refine va_get (D := (dC, dI)) (ci := 7) (v := .ref rM_fresh) (C := RX7) (T := TX7) (N := 48) hx hb hts inX7 hown hK hP 0 rfl rfl 16 (by decide) (hts _ wd_156) (fun _ h9 => h9) rfl dX7_wordLine_51 ?_
      refine lv_iconst (v := 2) hx hb dX7_wordLine_54 (by decide) ?_
      refine lv_dup2_11 hx hb dX7_wordLine_55 rfl rfl ?_
      refine va_iald hx hb hK hP 3 2 rfl rfl (by unfold vp_in; decide) dX7_wordLine_56 ?_
      refine lv_topi (fun x_5562 ex_5562 => ?_)
      have hG := hG.trans (lt_eq ex_5562)
      have cx_5562 : (f_5561 2).toInt = x_5562.toInt := congrArg Int32.toInt (show f_5561 2 = x_5562 from ex_5562.symm)
      refine lv_iconst (v := 1) hx hb dX7_wordLine_57 (by decide) ?_
      refine lv_iadd hx hb dX7_wordLine_58 ?_
      refine lv_topi (fun x_5563 ex_5563 => ?_)
      have hG := hG.trans (lt_eq ex_5563)
      have vx_5563 : x_5563.toInt = x_5562.toInt + 1 := ti_add ex_5563 rfl kc_1 (om_70e2a07e pl_fM_fresh.2.2.1.1 o2_f_5561 cx_5562) (om_faed9c11 pl_fM_fresh.2.2.1.2 o2_f_5561 cx_5562)
      refine va_iast hx hb hK hP hD hS 3 2 rfl rfl (by unfold vp_in; decide) dX7_wordLine_59 (fun H locs hP hD hS => ?_)
      obtain ⟨f_5564, ef_5564⟩ : ∃ g : Nat → Int32, g = upd f_5561 (2 : Int32).toNatClampNeg x_5563 := ⟨_, rfl⟩
      rw [← ef_5564] at hP hD
      have hG := hG.trans (lt_eq ef_5564)
      obtain ⟨hP, hD⟩ := wl2 (ws' := [(oc7 oM iM_thrown rM_tape iM_taped iM_size x_5547 x_5548 x_5549 x_5550 x_5551 x_5552 x_5553 iM_trouble rM_letters x_5554 iM_hasCourt rM_r rM_fresh rM_told rM_read rM_st rM_undone rM_kept iM_undos iM_images rM_fresher x_5543 iM_scale iM_night rM_heardRow rM_cutRow iM_breaths iM_cutMany iM_allBreaths rM_trial rM_words iM_fewestBreaths iM_orderMany iM_orderSum iM_leastOrder rM_often iM_setMany iM_someOf iM_allOf iM_allWeight iM_enoughWeight iM_worthSum iM_firstRest iM_leastDrawn), (arI rM_tape kM_tape 900 fM_tape), (arI rM_letters kM_letters 8 f_5555), (arI rM_fresh kM_fresh 287 f_5564), (arI rM_read kM_read 90 f_5560), (arI rM_fresher kM_fresher 8 f_5545)]) hP hD rfl
      have pk_f_5564 : POk f_5564 f_5560 := POk.word pk_f_5560 e_f_5561_0 kc_0 ef_5564 rfl (by have q := vx_5563; omega) (by omega)
      have pl_f_5564 := pk_f_5564.lins
      exact wq_v hx hb hr 0 trivial (fun t ht hW => ⟨x_5547, x_5548, x_5549, x_5550, x_5551, x_5552, x_5553, x_5554, x_5543, f_5555, f_5564, f_5560, f_5545, b_x_5548, b_x_5551, b_x_5554, (om_9348f5ae e_x_5535_0 e_x_5547_0), e_x_5547_1, (om_1fc3dec6 gc_5533 b_x_5554.1), (fun h9 => (om_7ed234da e_x_5535_0 (e_x_5547_3 ⟨(om_02e9bb08 gc_5557), h9.2⟩))), pk_f_5564, hG, Bw.to hP hD hK ht hW⟩) hS dX7_wordLine_60 hlocks
    · skip
      have hG := hG.trans (if_neg c_5557)
      have gc_5557 := ti_ne c_5557 rfl kc_0
      replace gc_5557 : (-1) * x_5554.toInt + 1 ≤ 0 := om_e3003f79 gc_5557 b_x_5554.1
      exact wq_v hx hb hr 0 trivial (fun t ht hW => ⟨x_5547, x_5548, x_5549, x_5550, x_5551, x_5552, x_5553, x_5554, x_5543, f_5555, fM_fresh, fM_read, f_5545, b_x_5548, b_x_5551, b_x_5554, (om_9348f5ae e_x_5535_0 e_x_5547_0), e_x_5547_1, (om_1fc3dec6 gc_5533 b_x_5554.1), (fun h9 => False.elim (om_a5fe015d gc_5557 h9.1)), r_P, hG, Bw.to hP hD hK ht hW⟩) hS dX7_wordLine_29 hlocks
  · skip
    have hG := hG.trans (if_neg c_5533)
    have gc_5533 := ti_ne c_5533 rfl kc_0
    replace gc_5533 : (-1) * iM_failed.toInt + 1 ≤ 0 := om_e3003f79 gc_5533 b_iM_failed.1
    clear hwl
    exact wq_v hx hb hr 0 trivial (fun t ht hW => ⟨iM_at, iM_end, iM_token, iM_whole, iM_nameSize, iM_fault, iM_place, iM_failed, iM_fresherSize, fM_letters, fM_fresh, fM_read, fM_fresher, ⟨b_iM_end.1, b_iM_end.2⟩, ⟨b_iM_nameSize.1, b_iM_nameSize.2⟩, ⟨b_iM_failed.1, b_iM_failed.2⟩, om_1cb5f934, r_T, om_1cb5f934, (fun h9 => False.elim (om_a5fe015d gc_5533 h9.1)), r_P, hG, Bw.to hP hD hK ht hW⟩) hS dX7_wordLine_7 hlocks
set_option maxHeartbeats 4000000 in
set_option maxRecDepth 100000 in
theorem tX7_throneLine (l : Launch) (dC : Nat → ClassId) (dI : Nat → Nat → Nat) (sz : Nat) (oM : Nat) (iM_thrown : Int32) (rM_tape : Nat) (fM_tape : Nat → Int32) (kM_tape : ClassId) (iM_taped : Int32) (iM_size : Int32) (iM_at : Int32) (iM_end : Int32) (iM_token : Int32) (iM_whole : Int32) (iM_nameSize : Int32) (iM_fault : Int32) (iM_place : Int32) (iM_trouble : Int32) (rM_letters : Nat) (fM_letters : Nat → Int32) (kM_letters : ClassId) (iM_failed : Int32) (iM_hasCourt : Int32) (rM_r : Nat) (rM_fresh : Nat) (fM_fresh : Nat → Int32) (kM_fresh : ClassId) (rM_told : Nat) (rM_read : Nat) (fM_read : Nat → Int32) (kM_read : ClassId) (rM_st : Nat) (rM_undone : Nat) (rM_kept : Nat) (iM_undos : Int32) (iM_images : Int32) (rM_fresher : Nat) (iM_fresherSize : Int32) (iM_scale : Int32) (iM_night : Int32) (rM_heardRow : Nat) (rM_cutRow : Nat) (iM_breaths : Int32) (iM_cutMany : Int32) (iM_allBreaths : Int32) (rM_trial : Nat) (rM_words : Nat) (iM_fewestBreaths : Int32) (iM_orderMany : Int32) (iM_orderSum : Int32) (iM_leastOrder : Int32) (rM_often : Nat) (iM_setMany : Int32) (iM_someOf : Int32) (iM_allOf : Int32) (iM_allWeight : Int64) (iM_enoughWeight : Int64) (iM_worthSum : Int64) (iM_firstRest : Int32) (iM_leastDrawn : Int32) (b_iM_taped : 0 ≤ iM_taped.toInt ∧ iM_taped.toInt ≤ 900) (b_iM_size : 0 ≤ iM_size.toInt ∧ iM_size.toInt ≤ 900) (b_iM_end : 0 ≤ iM_end.toInt ∧ iM_end.toInt ≤ 900) (b_iM_nameSize : 0 ≤ iM_nameSize.toInt ∧ iM_nameSize.toInt ≤ 900) (b_iM_failed : 0 ≤ iM_failed.toInt ∧ iM_failed.toInt ≤ 1) (b_iM_hasCourt : 0 ≤ iM_hasCourt.toInt ∧ iM_hasCourt.toInt ≤ 1) (b_iM_undos : 0 ≤ iM_undos.toInt ∧ iM_undos.toInt ≤ 16) (b_iM_images : 0 ≤ iM_images.toInt ∧ iM_images.toInt ≤ 3) (b_iM_scale : 1 ≤ iM_scale.toInt ∧ iM_scale.toInt ≤ 1296) (b_iM_breaths : 0 ≤ iM_breaths.toInt ∧ iM_breaths.toInt ≤ 399) (b_iM_cutMany : 0 ≤ iM_cutMany.toInt ∧ iM_cutMany.toInt ≤ 399) (r_T : ImpP (iM_token.toInt = 2) (iM_nameSize.toInt ≤ 8)) (r_P : POk fM_fresh fM_read)  : Met l yX7_throneLine (Cond.code yX7_throneLine cX7_throneLine 2 none :: wG) ({ frames := 7, cells := 0, slots := 0, locals := 175 }) (va_Pc [.ref oM] (Pw dC dI sz [(oc7 oM iM_thrown rM_tape iM_taped iM_size iM_at iM_end iM_token iM_whole iM_nameSize iM_fault iM_place iM_trouble rM_letters iM_failed iM_hasCourt rM_r rM_fresh rM_told rM_read rM_st rM_undone rM_kept iM_undos iM_images rM_fresher iM_fresherSize iM_scale iM_night rM_heardRow rM_cutRow iM_breaths iM_cutMany iM_allBreaths rM_trial rM_words iM_fewestBreaths iM_orderMany iM_orderSum iM_leastOrder rM_often iM_setMany iM_someOf iM_allOf iM_allWeight iM_enoughWeight iM_worthSum iM_firstRest iM_leastDrawn), (arI rM_tape kM_tape 900 fM_tape), (arI rM_letters kM_letters 8 fM_letters), (arI rM_fresh kM_fresh 287 fM_fresh), (arI rM_read kM_read 90 fM_read)] [(kM_tape, .int), (kM_letters, .int), (kM_fresh, .int), (kM_read, .int)])) (va_Qv (fun (_ : Nat) => True) (fun (_ : Nat) (t : State) => ∃ (niM_at : Int32) (niM_end : Int32) (niM_token : Int32) (niM_whole : Int32) (niM_nameSize : Int32) (niM_fault : Int32) (niM_place : Int32) (niM_failed : Int32) (nfM_letters : Nat → Int32) (nfM_fresh : Nat → Int32), (0 ≤ niM_end.toInt ∧ niM_end.toInt ≤ 900) ∧ (0 ≤ niM_nameSize.toInt ∧ niM_nameSize.toInt ≤ 900) ∧ (0 ≤ niM_failed.toInt ∧ niM_failed.toInt ≤ 1) ∧ (iM_end.toInt ≤ niM_end.toInt) ∧ (ImpP (niM_token.toInt = 2) (niM_nameSize.toInt ≤ 8)) ∧ (iM_failed.toInt ≤ niM_failed.toInt) ∧ (ImpP (niM_failed.toInt ≤ 0 ∧ niM_token.toInt = 59 ) (iM_end.toInt + 1 ≤ niM_end.toInt)) ∧ (POk nfM_fresh fM_read) ∧ (PX7_throneLine fM_tape iM_size iM_at iM_end iM_token iM_whole iM_nameSize iM_fault iM_place fM_letters iM_failed fM_fresh = (niM_at, niM_end, niM_token, niM_whole, niM_nameSize, niM_fault, niM_place, niM_failed, nfM_letters, nfM_fresh)) ∧ Bw dC dI (va_A [(oc7 oM iM_thrown rM_tape iM_taped iM_size iM_at iM_end iM_token iM_whole iM_nameSize iM_fault iM_place iM_trouble rM_letters iM_failed iM_hasCourt rM_r rM_fresh rM_told rM_read rM_st rM_undone rM_kept iM_undos iM_images rM_fresher iM_fresherSize iM_scale iM_night rM_heardRow rM_cutRow iM_breaths iM_cutMany iM_allBreaths rM_trial rM_words iM_fewestBreaths iM_orderMany iM_orderSum iM_leastOrder rM_often iM_setMany iM_someOf iM_allOf iM_allWeight iM_enoughWeight iM_worthSum iM_firstRest iM_leastDrawn), (arI rM_tape kM_tape 900 fM_tape), (arI rM_letters kM_letters 8 fM_letters), (arI rM_fresh kM_fresh 287 fM_fresh), (arI rM_read kM_read 90 fM_read)] sz) [(oc7 oM iM_thrown rM_tape iM_taped iM_size niM_at niM_end niM_token niM_whole niM_nameSize niM_fault niM_place iM_trouble rM_letters niM_failed iM_hasCourt rM_r rM_fresh rM_told rM_read rM_st rM_undone rM_kept iM_undos iM_images rM_fresher iM_fresherSize iM_scale iM_night rM_heardRow rM_cutRow iM_breaths iM_cutMany iM_allBreaths rM_trial rM_words iM_fewestBreaths iM_orderMany iM_orderSum iM_leastOrder rM_often iM_setMany iM_someOf iM_allOf iM_allWeight iM_enoughWeight iM_worthSum iM_firstRest iM_leastDrawn), (arI rM_tape kM_tape 900 fM_tape), (arI rM_letters kM_letters 8 nfM_letters), (arI rM_fresh kM_fresh 287 nfM_fresh), (arI rM_read kM_read 90 fM_read)] [(kM_tape, .int), (kM_letters, .int), (kM_fresh, .int), (kM_read, .int)] t) (va_A [(oc7 oM iM_thrown rM_tape iM_taped iM_size iM_at iM_end iM_token iM_whole iM_nameSize iM_fault iM_place iM_trouble rM_letters iM_failed iM_hasCourt rM_r rM_fresh rM_told rM_read rM_st rM_undone rM_kept iM_undos iM_images rM_fresher iM_fresherSize iM_scale iM_night rM_heardRow rM_cutRow iM_breaths iM_cutMany iM_allBreaths rM_trial rM_words iM_fewestBreaths iM_orderMany iM_orderSum iM_leastOrder rM_often iM_setMany iM_someOf iM_allOf iM_allWeight iM_enoughWeight iM_worthSum iM_firstRest iM_leastDrawn), (arI rM_tape kM_tape 900 fM_tape), (arI rM_letters kM_letters 8 fM_letters), (arI rM_fresh kM_fresh 287 fM_fresh), (arI rM_read kM_read 90 fM_read)] sz)) 0 0 (va_A [(oc7 oM iM_thrown rM_tape iM_taped iM_size iM_at iM_end iM_token iM_whole iM_nameSize iM_fault iM_place iM_trouble rM_letters iM_failed iM_hasCourt rM_r rM_fresh rM_told rM_read rM_st rM_undone rM_kept iM_undos iM_images rM_fresher iM_fresherSize iM_scale iM_night rM_heardRow rM_cutRow iM_breaths iM_cutMany iM_allBreaths rM_trial rM_words iM_fewestBreaths iM_orderMany iM_orderSum iM_leastOrder rM_often iM_setMany iM_someOf iM_allOf iM_allWeight iM_enoughWeight iM_worthSum iM_firstRest iM_leastDrawn), (arI rM_tape kM_tape 900 fM_tape), (arI rM_letters kM_letters 8 fM_letters), (arI rM_fresh kM_fresh 287 fM_fresh), (arI rM_read kM_read 90 fM_read)] sz) := by
  refine Met.ofW (cc := cX7_throneLine) (maxL := 2) (ret := none) pnX7 rfl ?_
  intro p e s m args below meth c s₁ B hml hv
  obtain ⟨rfl, hsz, hP, hK, hD0, hE⟩ := hv
  have hx := B.exec
  have hb := B.bytes
  have hr := B.returns
  have hts : ∀ w ∈ wG, w.before ([.ref oM] : List Value).toArray s = true := fun w h => atoms_spec (ws := Cond.code yX7_throneLine cX7_throneLine 2 none :: wG) B.pre w (List.mem_cons_of_mem _ h)
  have hown : s.vm.findClass RX7 = some m.cls := own_of B.named rfl
  have hlocks := B.notSynchronized
  subst hsz
  have hD := hD0.self (sz := s.heap.size)
  generalize hAe : va_A [(oc7 oM iM_thrown rM_tape iM_taped iM_size iM_at iM_end iM_token iM_whole iM_nameSize iM_fault iM_place iM_trouble rM_letters iM_failed iM_hasCourt rM_r rM_fresh rM_told rM_read rM_st rM_undone rM_kept iM_undos iM_images rM_fresher iM_fresherSize iM_scale iM_night rM_heardRow rM_cutRow iM_breaths iM_cutMany iM_allBreaths rM_trial rM_words iM_fewestBreaths iM_orderMany iM_orderSum iM_leastOrder rM_often iM_setMany iM_someOf iM_allOf iM_allWeight iM_enoughWeight iM_worthSum iM_firstRest iM_leastDrawn), (arI rM_tape kM_tape 900 fM_tape), (arI rM_letters kM_letters 8 fM_letters), (arI rM_fresh kM_fresh 287 fM_fresh), (arI rM_read kM_read 90 fM_read)] s.heap.size = A at hD hE ⊢
  have hA : ∀ q : Nat, s.heap.size ≤ q → A q := fun q h => by rw [← hAe]; exact Or.inr h
  have hS : va_S A s.heap s.heap [] := va_S.rf
  have hl := lv_entry ([.ref oM]) (n := 2) (Nat.le_of_ble_eq_true rfl)
  rw [lg_entry_eq]
  generalize (lg_sl ([.ref oM]) ++ List.replicate (2 - (lg_sl ([.ref oM])).length) Slot.unset).toArray = ls at hl ⊢
  have hl : lv_has ls 2 [(0, .ref oM)] := hl
  have hG := PX7_throneLine_eq fM_tape iM_size iM_at iM_end iM_token iM_whole iM_nameSize iM_fault iM_place fM_letters iM_failed fM_fresh
  have pl_fM_fresh := r_P.lins
  refine lv_aload_n hx hb dX7_throneLine_0 rfl (lv_at hl 0 rfl) ?_
  refine va_get (D := (dC, dI)) (ci := 7) (v := .ref rM_fresh) (C := RX7) (T := TX7) (N := 48) hx hb hts inX7 hown hK hP 0 rfl rfl 16 (by decide) (hts _ wd_156) (fun _ h9 => h9) rfl dX7_throneLine_1 ?_
  refine lv_bipush (v := 6) hx hb dX7_throneLine_4 (by decide) ?_
  refine va_iald hx hb hK hP 3 2 rfl rfl (by unfold vp_in; decide) dX7_throneLine_6 ?_
  refine lv_topi (fun x_5618 ex_5618 => ?_)
  have hG := hG.trans (lt_eq ex_5618)
  have cx_5618 : (fM_fresh 6).toInt = x_5618.toInt := congrArg Int32.toInt (show fM_fresh 6 = x_5618 from ex_5618.symm)
  refine lv_if_lt (tgt := 19) hx hb dX7_throneLine_7 (by decide) (fun c_5619 => ?_) (fun c_5619 => ?_)
  · skip
    have hG := hG.trans (if_pos c_5619)
    have gc_5619 := ti_lt c_5619 rfl kc_0
    refine lv_aload_n hx hb dX7_throneLine_19 rfl (lv_at hl 0 rfl) ?_
    obtain ⟨sa_5620, vsa_5620, nsa_5620, fsa_5620, hnsa_5620, hnesa_5620, hfesa_5620, hRsa_5620, hSsa_5620⟩ := hE.2.2.1 (144, "throne", [116, 104, 114, 111, 110, 101]) (by decide)
    have hG := hG.trans (lt_eq hnesa_5620)
    have hG := hG.trans (lt_eq hfesa_5620)
    refine va_ldcS hx hb hown hRsa_5620 dX7_throneLine_20 ?_
    refine lv_iconst (v := 1) hx hb dX7_throneLine_22 (by decide) ?_
    have hFc := va_freeI hD hS hA
    refine va_calli (va_runV (As := [.ref sa_5620, .int 1]) (rest := []) ⟨hx, hb, hml, hown, hts⟩ (tX7_begins l dC dI _ oM iM_thrown rM_tape fM_tape kM_tape iM_taped iM_size iM_at iM_end iM_token iM_whole iM_nameSize iM_fault iM_place iM_trouble rM_letters fM_letters kM_letters iM_failed iM_hasCourt rM_r rM_fresh fM_fresh kM_fresh rM_told rM_read fM_read kM_read rM_st rM_undone rM_kept iM_undos iM_images rM_fresher iM_fresherSize iM_scale iM_night rM_heardRow rM_cutRow iM_breaths iM_cutMany iM_allBreaths rM_trial rM_words iM_fewestBreaths iM_orderMany iM_orderSum iM_leastOrder rM_often iM_setMany iM_someOf iM_allOf iM_allWeight iM_enoughWeight iM_worthSum iM_firstRest iM_leastDrawn sa_5620 1 vsa_5620 nsa_5620 fsa_5620 b_iM_taped b_iM_size b_iM_end b_iM_nameSize b_iM_failed b_iM_hasCourt b_iM_undos b_iM_images b_iM_scale b_iM_breaths b_iM_cutMany r_T r_P (Nat.le_trans (Nat.le_of_eq hnesa_5620) (by decide)) ⟨(om_1b364b1c kc_1), (om_02032f93 kc_1)⟩) (cwV 2 hts (wd_V wd_450 wd_451 wd_452 wd_5 (wd_c wd_453)) rfl rfl rfl dv_yX7_begins_2 ⟨Nat.le_of_ble_eq_true rfl, Nat.le_of_ble_eq_true rfl⟩) ⟨Pq.fb, recvX7 hK hP (q0 := 0) rfl, fun U hU hW => Pq.to hP hD hK hSsa_5620 hE hS hFc hU hW⟩ rfl rfl hl.1 rfl (lv_room (Nat.le_of_ble_eq_true rfl)) dX7_throneLine_23 ⟨Nat.le_of_ble_eq_true rfl, Nat.le_of_ble_eq_true rfl⟩) hS (fun q _ h => hFc q h) hFc (fun r u t H locs ht hvm hw hB hz1 hk1 hS => ?_)
    have hru9 := hw.2
    have hw := hw.1
    refine ex_9_9 hB (fun x_5621 x_5622 x_5623 x_5624 x_5625 x_5626 x_5627 x_5628 f_5629 b_x_5622 b_x_5625 b_x_5628 e_x_5621_0 e_x_5621_1 e_x_5621_2 e_x_5621_3 e_x_5621_4 e_x_5621_5 hB => ?_)
    obtain ⟨hP, hD⟩ := Bw.goA (ws' := [(oc7 oM iM_thrown rM_tape iM_taped iM_size x_5621 x_5622 x_5623 x_5624 x_5625 x_5626 x_5627 iM_trouble rM_letters x_5628 iM_hasCourt rM_r rM_fresh rM_told rM_read rM_st rM_undone rM_kept iM_undos iM_images rM_fresher iM_fresherSize iM_scale iM_night rM_heardRow rM_cutRow iM_breaths iM_cutMany iM_allBreaths rM_trial rM_words iM_fewestBreaths iM_orderMany iM_orderSum iM_leastOrder rM_often iM_setMany iM_someOf iM_allOf iM_allWeight iM_enoughWeight iM_worthSum iM_firstRest iM_leastDrawn), (arI rM_tape kM_tape 900 fM_tape), (arI rM_letters kM_letters 8 f_5629), (arI rM_fresh kM_fresh 287 fM_fresh), (arI rM_read kM_read 90 fM_read)]) hB rfl ht hFc rfl
    clear hz1 hk1 hvm ht hB
    rw [← hru9] at e_x_5621_5
    obtain ⟨x_5630, rfl⟩ : ∃ z, z = r := ⟨_, rfl⟩
    have hG := hG.trans (un10_eq e_x_5621_5)
    have bx_5630 := hw.1
    have dx_5630 := bz_tb bx_5630
    have lx_5630 := hw.2
    clear r_T
    refine lv_pop hx hb dX7_throneLine_26 rfl ?_
    refine lv_aload_n hx hb dX7_throneLine_27 rfl (lv_at hl 0 rfl) ?_
    have hMs := ml_of hD [true, false, true, true, true] (wc := [(oc7 oM iM_thrown rM_tape iM_taped iM_size x_5621 x_5622 x_5623 x_5624 x_5625 x_5626 x_5627 iM_trouble rM_letters x_5628 iM_hasCourt rM_r rM_fresh rM_told rM_read rM_st rM_undone rM_kept iM_undos iM_images rM_fresher iM_fresherSize iM_scale iM_night rM_heardRow rM_cutRow iM_breaths iM_cutMany iM_allBreaths rM_trial rM_words iM_fewestBreaths iM_orderMany iM_orderSum iM_leastOrder rM_often iM_setMany iM_someOf iM_allOf iM_allWeight iM_enoughWeight iM_worthSum iM_firstRest iM_leastDrawn), (arI rM_letters kM_letters 8 f_5629), (arI rM_fresh kM_fresh 287 fM_fresh), (arI rM_read kM_read 90 fM_read)]) rfl
    have hFc := va_freeM hD hS hA _ hMs
    refine va_calli (va_runV (As := []) (rest := []) ⟨hx, hb, hml, hown, hts⟩ (tX7_nodeHere l dC dI _ oM iM_thrown rM_tape iM_taped iM_size x_5621 x_5622 x_5623 x_5624 x_5625 x_5626 x_5627 iM_trouble rM_letters f_5629 kM_letters x_5628 iM_hasCourt rM_r rM_fresh fM_fresh kM_fresh rM_told rM_read fM_read kM_read rM_st rM_undone rM_kept iM_undos iM_images rM_fresher iM_fresherSize iM_scale iM_night rM_heardRow rM_cutRow iM_breaths iM_cutMany iM_allBreaths rM_trial rM_words iM_fewestBreaths iM_orderMany iM_orderSum iM_leastOrder rM_often iM_setMany iM_someOf iM_allOf iM_allWeight iM_enoughWeight iM_worthSum iM_firstRest iM_leastDrawn b_iM_taped b_iM_size b_x_5622 b_x_5625 b_x_5628 b_iM_hasCourt b_iM_undos b_iM_images b_iM_scale b_iM_breaths b_iM_cutMany e_x_5621_1 r_P) (cwV 0 hts (wd_V wd_486 wd_487 wd_488 wd_5 (wd_c wd_489)) rfl rfl rfl dv_yX7_nodeHere_0 ⟨Nat.le_of_ble_eq_true rfl, Nat.le_of_ble_eq_true rfl⟩) ⟨Pw.fb, recvX7 hK hP (q0 := 0) rfl, fun U hU hW => Pw.to (hP.ms _ hMs) (hD.ms _ hMs) (hK.ms [false, true, true, true] rfl) hE hS hFc hU hW⟩ rfl rfl hl.1 rfl (lv_room (Nat.le_of_ble_eq_true rfl)) dX7_throneLine_28 ⟨Nat.le_of_ble_eq_true rfl, Nat.le_of_ble_eq_true rfl⟩) hS (fun q _ h => hFc q h) hFc (fun r u t H locs ht hvm hw hB hz1 hk1 hS => ?_)
    have hru9 := hw.2
    have hw := hw.1
    refine ex_3_4 hB (fun x_5631 x_5632 x_5633 b_x_5633 e_x_5631_0 e_x_5631_1 e_x_5631_2 hB => ?_)
    obtain ⟨hP, hD⟩ := Bw.goN (ws' := [(oc7 oM iM_thrown rM_tape iM_taped iM_size x_5621 x_5622 x_5623 x_5624 x_5625 x_5631 x_5632 iM_trouble rM_letters x_5633 iM_hasCourt rM_r rM_fresh rM_told rM_read rM_st rM_undone rM_kept iM_undos iM_images rM_fresher iM_fresherSize iM_scale iM_night rM_heardRow rM_cutRow iM_breaths iM_cutMany iM_allBreaths rM_trial rM_words iM_fewestBreaths iM_orderMany iM_orderSum iM_leastOrder rM_often iM_setMany iM_someOf iM_allOf iM_allWeight iM_enoughWeight iM_worthSum iM_firstRest iM_leastDrawn), (arI rM_tape kM_tape 900 fM_tape), (arI rM_letters kM_letters 8 f_5629), (arI rM_fresh kM_fresh 287 fM_fresh), (arI rM_read kM_read 90 fM_read)]) hB rfl ht hP hD _ hMs hk1 hFc rfl
    clear hz1 hk1 hvm ht hB hMs
    rw [← hru9] at e_x_5631_2
    obtain ⟨x_5634, rfl⟩ : ∃ z, z = r := ⟨_, rfl⟩
    have hG := hG.trans (un4_eq e_x_5631_2)
    have lx_5634 := hw.2
    have ux_5634 := hw.2
    refine lv_istore_n (lv' := [(1, .int x_5634), (0, .ref oM)]) hx hb dX7_throneLine_31 rfl hl (by decide) rfl (fun ls hl => ?_)
    refine lv_aload_n hx hb dX7_throneLine_32 rfl (lv_at hl 1 rfl) ?_
    have hMs := ml_of hD [true, true, true, false, false] (wc := [(oc7 oM iM_thrown rM_tape iM_taped iM_size x_5621 x_5622 x_5623 x_5624 x_5625 x_5631 x_5632 iM_trouble rM_letters x_5633 iM_hasCourt rM_r rM_fresh rM_told rM_read rM_st rM_undone rM_kept iM_undos iM_images rM_fresher iM_fresherSize iM_scale iM_night rM_heardRow rM_cutRow iM_breaths iM_cutMany iM_allBreaths rM_trial rM_words iM_fewestBreaths iM_orderMany iM_orderSum iM_leastOrder rM_often iM_setMany iM_someOf iM_allOf iM_allWeight iM_enoughWeight iM_worthSum iM_firstRest iM_leastDrawn), (arI rM_tape kM_tape 900 fM_tape), (arI rM_letters kM_letters 8 f_5629)]) rfl
    have hFc := va_freeM hD hS hA _ hMs
    refine va_callv (va_runV (As := []) (rest := []) ⟨hx, hb, hml, hown, hts⟩ (tX7_pass l dC dI _ oM iM_thrown rM_tape fM_tape kM_tape iM_taped iM_size x_5621 x_5622 x_5623 x_5624 x_5625 x_5631 x_5632 iM_trouble rM_letters f_5629 kM_letters x_5633 iM_hasCourt rM_r rM_fresh rM_told rM_read rM_st rM_undone rM_kept iM_undos iM_images rM_fresher iM_fresherSize iM_scale iM_night rM_heardRow rM_cutRow iM_breaths iM_cutMany iM_allBreaths rM_trial rM_words iM_fewestBreaths iM_orderMany iM_orderSum iM_leastOrder rM_often iM_setMany iM_someOf iM_allOf iM_allWeight iM_enoughWeight iM_worthSum iM_firstRest iM_leastDrawn b_iM_taped b_iM_size b_x_5622 b_x_5625 b_x_5633 b_iM_hasCourt b_iM_undos b_iM_images b_iM_scale b_iM_breaths b_iM_cutMany e_x_5621_1) (cwV 0 hts (wd_V wd_454 wd_455 wd_456 wd_5 (wd_c wd_457)) rfl rfl rfl dv_yX7_pass_0 ⟨Nat.le_of_ble_eq_true rfl, Nat.le_of_ble_eq_true rfl⟩) ⟨Pw.fb, recvX7 hK hP (q0 := 0) rfl, fun U hU hW => Pw.to (hP.ms _ hMs) (hD.ms _ hMs) (hK.ms [true, true, false, false] rfl) hE hS hFc hU hW⟩ rfl rfl hl.1 rfl (lv_room (Nat.le_of_ble_eq_true rfl)) dX7_throneLine_33 ⟨Nat.le_of_ble_eq_true rfl, Nat.le_of_ble_eq_true rfl⟩) hS (fun q _ h => hFc q h) hFc (fun u t H locs ht hvm hw hB hz1 hk1 hS => ?_)
    refine ex_6_6 hB (fun x_5635 x_5636 x_5637 x_5638 x_5639 f_5640 b_x_5636 b_x_5639 e_x_5635_0 e_x_5635_1 e_x_5635_2 e_x_5635_3 hB => ?_)
    obtain ⟨hP, hD⟩ := Bw.goN (ws' := [(oc7 oM iM_thrown rM_tape iM_taped iM_size x_5635 x_5636 x_5637 x_5638 x_5639 x_5631 x_5632 iM_trouble rM_letters x_5633 iM_hasCourt rM_r rM_fresh rM_told rM_read rM_st rM_undone rM_kept iM_undos iM_images rM_fresher iM_fresherSize iM_scale iM_night rM_heardRow rM_cutRow iM_breaths iM_cutMany iM_allBreaths rM_trial rM_words iM_fewestBreaths iM_orderMany iM_orderSum iM_leastOrder rM_often iM_setMany iM_someOf iM_allOf iM_allWeight iM_enoughWeight iM_worthSum iM_firstRest iM_leastDrawn), (arI rM_tape kM_tape 900 fM_tape), (arI rM_letters kM_letters 8 f_5640), (arI rM_fresh kM_fresh 287 fM_fresh), (arI rM_read kM_read 90 fM_read)]) hB rfl ht hP hD _ hMs hk1 hFc rfl
    clear hz1 hk1 hvm ht hB hMs
    have hG := hG.trans (un6_eq e_x_5635_3)
    clear e_x_5621_1
    clear e_x_5621_4
    refine lv_aload_n hx hb dX7_throneLine_36 rfl (lv_at hl 1 rfl) ?_
    refine va_get (D := (dC, dI)) (ci := 7) (v := .int x_5633) (C := RX7) (T := TX7) (N := 48) hx hb hts inX7 hown hK hP 0 rfl rfl 13 (by decide) (hts _ wd_380) (fun _ h9 => h9) rfl dX7_throneLine_37 ?_
    refine lv_if_ne (tgt := 51) hx hb dX7_throneLine_40 (by decide) (fun c_5641 => ?_) (fun c_5641 => ?_)
    · skip
      have hG := hG.trans (if_neg c_5641)
      have gc_5641 := ti_ne c_5641 rfl kc_0
      replace gc_5641 : (-1) * x_5633.toInt + 1 ≤ 0 := om_e3003f79 gc_5641 b_x_5633.1
      clear e_x_5631_1
      exact wq_v hx hb hr 0 trivial (fun t ht hW => ⟨x_5635, x_5636, x_5637, x_5638, x_5639, x_5631, x_5632, x_5633, f_5640, fM_fresh, b_x_5636, b_x_5639, b_x_5633, (om_9348f5ae e_x_5621_0 e_x_5635_0), e_x_5635_1, (om_9348f5ae e_x_5621_2 e_x_5631_0), (fun h9 => False.elim (om_a5fe015d gc_5641 h9.1)), r_P, hG, Bw.to hP hD hK ht hW⟩) hS dX7_throneLine_51 hlocks
    · skip
      have hG := hG.trans (if_pos c_5641)
      have gc_5641 := ti_eq c_5641 rfl kc_0
      have h_5642 : 1 ≤ (fM_fresh 1).toInt := e_x_5631_1 (om_02e9bb08 gc_5641)
      clear e_x_5631_1
      have h_5643 : x_5634.toInt < (fM_fresh 1).toInt := lx_5634.2.1 h_5642
      refine lv_aload_n hx hb dX7_throneLine_43 rfl (lv_at hl 1 rfl) ?_
      refine va_get (D := (dC, dI)) (ci := 7) (v := .ref rM_fresh) (C := RX7) (T := TX7) (N := 48) hx hb hts inX7 hown hK hP 0 rfl rfl 16 (by decide) (hts _ wd_156) (fun _ h9 => h9) rfl dX7_throneLine_44 ?_
      refine lv_bipush (v := 6) hx hb dX7_throneLine_47 (by decide) ?_
      refine lv_iload_n hx hb dX7_throneLine_49 rfl (lv_at hl 0 rfl) ?_
      refine va_iast hx hb hK hP hD hS 3 2 rfl rfl (by unfold vp_in; decide) dX7_throneLine_50 (fun H locs hP hD hS => ?_)
      obtain ⟨f_5644, ef_5644⟩ : ∃ g : Nat → Int32, g = upd fM_fresh (6 : Int32).toNatClampNeg x_5634 := ⟨_, rfl⟩
      rw [← ef_5644] at hP hD
      have hG := hG.trans (lt_eq ef_5644)
      obtain ⟨hP, hD⟩ := wl2 (ws' := [(oc7 oM iM_thrown rM_tape iM_taped iM_size x_5635 x_5636 x_5637 x_5638 x_5639 x_5631 x_5632 iM_trouble rM_letters x_5633 iM_hasCourt rM_r rM_fresh rM_told rM_read rM_st rM_undone rM_kept iM_undos iM_images rM_fresher iM_fresherSize iM_scale iM_night rM_heardRow rM_cutRow iM_breaths iM_cutMany iM_allBreaths rM_trial rM_words iM_fewestBreaths iM_orderMany iM_orderSum iM_leastOrder rM_often iM_setMany iM_someOf iM_allOf iM_allWeight iM_enoughWeight iM_worthSum iM_firstRest iM_leastDrawn), (arI rM_tape kM_tape 900 fM_tape), (arI rM_letters kM_letters 8 f_5640), (arI rM_fresh kM_fresh 287 f_5644), (arI rM_read kM_read 90 fM_read)]) hP hD rfl
      have pk_f_5644 : POk f_5644 fM_read := POk.put r_P ef_5644 (Or.inr (Or.inr (Or.inr (Or.inl (by have q9 : ((6 : Int32).toNatClampNeg : Nat) = 6 := rfl; omega)))))
      have pl_f_5644 := pk_f_5644.lins
      exact wq_v hx hb hr 0 trivial (fun t ht hW => ⟨x_5635, x_5636, x_5637, x_5638, x_5639, x_5631, x_5632, x_5633, f_5640, f_5644, b_x_5636, b_x_5639, b_x_5633, (om_9348f5ae e_x_5621_0 e_x_5635_0), e_x_5635_1, (om_9348f5ae e_x_5621_2 e_x_5631_0), (fun h9 => (om_7ed234da e_x_5621_0 (e_x_5635_2 ⟨(om_02e9bb08 gc_5641), h9.2⟩))), pk_f_5644, hG, Bw.to hP hD hK ht hW⟩) hS dX7_throneLine_51 hlocks
  · skip
    have hG := hG.trans (if_neg c_5619)
    have gc_5619 := ti_nlt c_5619 rfl kc_0
    refine lv_aload_n hx hb dX7_throneLine_10 rfl (lv_at hl 0 rfl) ?_
    refine lv_iconst (v := 3) hx hb dX7_throneLine_11 (by decide) ?_
    refine lv_aload_n hx hb dX7_throneLine_12 rfl (lv_at hl 0 rfl) ?_
    refine va_get (D := (dC, dI)) (ci := 7) (v := .int iM_at) (C := RX7) (T := TX7) (N := 48) hx hb hts inX7 hown hK hP 0 rfl rfl 4 (by decide) (hts _ wd_384) (fun _ h9 => h9) rfl dX7_throneLine_13 ?_
    have hMs := ml_of hD [true, false, false, false, false] (wc := [(oc7 oM iM_thrown rM_tape iM_taped iM_size iM_at iM_end iM_token iM_whole iM_nameSize iM_fault iM_place iM_trouble rM_letters iM_failed iM_hasCourt rM_r rM_fresh rM_told rM_read rM_st rM_undone rM_kept iM_undos iM_images rM_fresher iM_fresherSize iM_scale iM_night rM_heardRow rM_cutRow iM_breaths iM_cutMany iM_allBreaths rM_trial rM_words iM_fewestBreaths iM_orderMany iM_orderSum iM_leastOrder rM_often iM_setMany iM_someOf iM_allOf iM_allWeight iM_enoughWeight iM_worthSum iM_firstRest iM_leastDrawn)]) rfl
    have hFc := va_freeM hD hS hA _ hMs
    refine va_callv (va_runV (As := [.int 3, .int iM_at]) (rest := []) ⟨hx, hb, hml, hown, hts⟩ (tX7_wrong l dC dI _ oM iM_thrown rM_tape iM_taped iM_size iM_at iM_end iM_token iM_whole iM_nameSize iM_fault iM_place iM_trouble rM_letters iM_failed iM_hasCourt rM_r rM_fresh rM_told rM_read rM_st rM_undone rM_kept iM_undos iM_images rM_fresher iM_fresherSize iM_scale iM_night rM_heardRow rM_cutRow iM_breaths iM_cutMany iM_allBreaths rM_trial rM_words iM_fewestBreaths iM_orderMany iM_orderSum iM_leastOrder rM_often iM_setMany iM_someOf iM_allOf iM_allWeight iM_enoughWeight iM_worthSum iM_firstRest iM_leastDrawn 3 iM_at b_iM_taped b_iM_size b_iM_end b_iM_nameSize b_iM_failed b_iM_hasCourt b_iM_undos b_iM_images b_iM_scale b_iM_breaths b_iM_cutMany r_T) (cwV 2 hts (wd_V wd_430 wd_431 wd_432 wd_5 (wd_c wd_433)) rfl rfl rfl dv_yX7_wrong_2 ⟨Nat.le_of_ble_eq_true rfl, Nat.le_of_ble_eq_true rfl⟩) ⟨Pw.fb, recvX7 hK hP (q0 := 0) rfl, fun U hU hW => Pw.to (hP.ms _ hMs) (hD.ms _ hMs) (hK.ms [false, false, false, false] rfl) hE hS hFc hU hW⟩ rfl rfl hl.1 rfl (lv_room (Nat.le_of_ble_eq_true rfl)) dX7_throneLine_16 ⟨Nat.le_of_ble_eq_true rfl, Nat.le_of_ble_eq_true rfl⟩) hS (fun q _ h => hFc q h) hFc (fun u t H locs ht hvm hw hB hz1 hk1 hS => ?_)
    refine ex_3_3 hB (fun x_5645 x_5646 x_5647 b_x_5647 e_x_5645_0 e_x_5645_1 hB => ?_)
    obtain ⟨hP, hD⟩ := Bw.goN (ws' := [(oc7 oM iM_thrown rM_tape iM_taped iM_size iM_at iM_end iM_token iM_whole iM_nameSize x_5645 x_5646 iM_trouble rM_letters x_5647 iM_hasCourt rM_r rM_fresh rM_told rM_read rM_st rM_undone rM_kept iM_undos iM_images rM_fresher iM_fresherSize iM_scale iM_night rM_heardRow rM_cutRow iM_breaths iM_cutMany iM_allBreaths rM_trial rM_words iM_fewestBreaths iM_orderMany iM_orderSum iM_leastOrder rM_often iM_setMany iM_someOf iM_allOf iM_allWeight iM_enoughWeight iM_worthSum iM_firstRest iM_leastDrawn), (arI rM_tape kM_tape 900 fM_tape), (arI rM_letters kM_letters 8 fM_letters), (arI rM_fresh kM_fresh 287 fM_fresh), (arI rM_read kM_read 90 fM_read)]) hB rfl ht hP hD _ hMs hk1 hFc rfl
    clear hz1 hk1 hvm ht hB hMs
    have hG := hG.trans (un3_eq e_x_5645_1)
    refine lv_aload_n hx hb dX7_throneLine_19 rfl (lv_at hl 0 rfl) ?_
    obtain ⟨sa_5648, vsa_5648, nsa_5648, fsa_5648, hnsa_5648, hnesa_5648, hfesa_5648, hRsa_5648, hSsa_5648⟩ := hE.2.2.1 (144, "throne", [116, 104, 114, 111, 110, 101]) (by decide)
    have hG := hG.trans (lt_eq hnesa_5648)
    have hG := hG.trans (lt_eq hfesa_5648)
    refine va_ldcS hx hb hown hRsa_5648 dX7_throneLine_20 ?_
    refine lv_iconst (v := 1) hx hb dX7_throneLine_22 (by decide) ?_
    have hFc := va_freeI hD hS hA
    refine va_calli (va_runV (As := [.ref sa_5648, .int 1]) (rest := []) ⟨hx, hb, hml, hown, hts⟩ (tX7_begins l dC dI _ oM iM_thrown rM_tape fM_tape kM_tape iM_taped iM_size iM_at iM_end iM_token iM_whole iM_nameSize x_5645 x_5646 iM_trouble rM_letters fM_letters kM_letters x_5647 iM_hasCourt rM_r rM_fresh fM_fresh kM_fresh rM_told rM_read fM_read kM_read rM_st rM_undone rM_kept iM_undos iM_images rM_fresher iM_fresherSize iM_scale iM_night rM_heardRow rM_cutRow iM_breaths iM_cutMany iM_allBreaths rM_trial rM_words iM_fewestBreaths iM_orderMany iM_orderSum iM_leastOrder rM_often iM_setMany iM_someOf iM_allOf iM_allWeight iM_enoughWeight iM_worthSum iM_firstRest iM_leastDrawn sa_5648 1 vsa_5648 nsa_5648 fsa_5648 b_iM_taped b_iM_size b_iM_end b_iM_nameSize b_x_5647 b_iM_hasCourt b_iM_undos b_iM_images b_iM_scale b_iM_breaths b_iM_cutMany r_T r_P (Nat.le_trans (Nat.le_of_eq hnesa_5648) (by decide)) ⟨(om_1b364b1c kc_1), (om_02032f93 kc_1)⟩) (cwV 2 hts (wd_V wd_450 wd_451 wd_452 wd_5 (wd_c wd_453)) rfl rfl rfl dv_yX7_begins_2 ⟨Nat.le_of_ble_eq_true rfl, Nat.le_of_ble_eq_true rfl⟩) ⟨Pq.fb, recvX7 hK hP (q0 := 0) rfl, fun U hU hW => Pq.to hP hD hK hSsa_5648 hE hS hFc hU hW⟩ rfl rfl hl.1 rfl (lv_room (Nat.le_of_ble_eq_true rfl)) dX7_throneLine_23 ⟨Nat.le_of_ble_eq_true rfl, Nat.le_of_ble_eq_true rfl⟩) hS (fun q _ h => hFc q h) hFc (fun r u t H locs ht hvm hw hB hz1 hk1 hS => ?_)
    have hru9 := hw.2
    have hw := hw.1
    refine ex_9_9 hB (fun x_5649 x_5650 x_5651 x_5652 x_5653 x_5654 x_5655 x_5656 f_5657 b_x_5650 b_x_5653 b_x_5656 e_x_5649_0 e_x_5649_1 e_x_5649_2 e_x_5649_3 e_x_5649_4 e_x_5649_5 hB => ?_)
    obtain ⟨hP, hD⟩ := Bw.goA (ws' := [(oc7 oM iM_thrown rM_tape iM_taped iM_size x_5649 x_5650 x_5651 x_5652 x_5653 x_5654 x_5655 iM_trouble rM_letters x_5656 iM_hasCourt rM_r rM_fresh rM_told rM_read rM_st rM_undone rM_kept iM_undos iM_images rM_fresher iM_fresherSize iM_scale iM_night rM_heardRow rM_cutRow iM_breaths iM_cutMany iM_allBreaths rM_trial rM_words iM_fewestBreaths iM_orderMany iM_orderSum iM_leastOrder rM_often iM_setMany iM_someOf iM_allOf iM_allWeight iM_enoughWeight iM_worthSum iM_firstRest iM_leastDrawn), (arI rM_tape kM_tape 900 fM_tape), (arI rM_letters kM_letters 8 f_5657), (arI rM_fresh kM_fresh 287 fM_fresh), (arI rM_read kM_read 90 fM_read)]) hB rfl ht hFc rfl
    clear hz1 hk1 hvm ht hB
    rw [← hru9] at e_x_5649_5
    obtain ⟨x_5658, rfl⟩ : ∃ z, z = r := ⟨_, rfl⟩
    have hG := hG.trans (un10_eq e_x_5649_5)
    have bx_5658 := hw.1
    have dx_5658 := bz_tb bx_5658
    have lx_5658 := hw.2
    clear r_T
    refine lv_pop hx hb dX7_throneLine_26 rfl ?_
    refine lv_aload_n hx hb dX7_throneLine_27 rfl (lv_at hl 0 rfl) ?_
    have hMs := ml_of hD [true, false, true, true, true] (wc := [(oc7 oM iM_thrown rM_tape iM_taped iM_size x_5649 x_5650 x_5651 x_5652 x_5653 x_5654 x_5655 iM_trouble rM_letters x_5656 iM_hasCourt rM_r rM_fresh rM_told rM_read rM_st rM_undone rM_kept iM_undos iM_images rM_fresher iM_fresherSize iM_scale iM_night rM_heardRow rM_cutRow iM_breaths iM_cutMany iM_allBreaths rM_trial rM_words iM_fewestBreaths iM_orderMany iM_orderSum iM_leastOrder rM_often iM_setMany iM_someOf iM_allOf iM_allWeight iM_enoughWeight iM_worthSum iM_firstRest iM_leastDrawn), (arI rM_letters kM_letters 8 f_5657), (arI rM_fresh kM_fresh 287 fM_fresh), (arI rM_read kM_read 90 fM_read)]) rfl
    have hFc := va_freeM hD hS hA _ hMs
    refine va_calli (va_runV (As := []) (rest := []) ⟨hx, hb, hml, hown, hts⟩ (tX7_nodeHere l dC dI _ oM iM_thrown rM_tape iM_taped iM_size x_5649 x_5650 x_5651 x_5652 x_5653 x_5654 x_5655 iM_trouble rM_letters f_5657 kM_letters x_5656 iM_hasCourt rM_r rM_fresh fM_fresh kM_fresh rM_told rM_read fM_read kM_read rM_st rM_undone rM_kept iM_undos iM_images rM_fresher iM_fresherSize iM_scale iM_night rM_heardRow rM_cutRow iM_breaths iM_cutMany iM_allBreaths rM_trial rM_words iM_fewestBreaths iM_orderMany iM_orderSum iM_leastOrder rM_often iM_setMany iM_someOf iM_allOf iM_allWeight iM_enoughWeight iM_worthSum iM_firstRest iM_leastDrawn b_iM_taped b_iM_size b_x_5650 b_x_5653 b_x_5656 b_iM_hasCourt b_iM_undos b_iM_images b_iM_scale b_iM_breaths b_iM_cutMany e_x_5649_1 r_P) (cwV 0 hts (wd_V wd_486 wd_487 wd_488 wd_5 (wd_c wd_489)) rfl rfl rfl dv_yX7_nodeHere_0 ⟨Nat.le_of_ble_eq_true rfl, Nat.le_of_ble_eq_true rfl⟩) ⟨Pw.fb, recvX7 hK hP (q0 := 0) rfl, fun U hU hW => Pw.to (hP.ms _ hMs) (hD.ms _ hMs) (hK.ms [false, true, true, true] rfl) hE hS hFc hU hW⟩ rfl rfl hl.1 rfl (lv_room (Nat.le_of_ble_eq_true rfl)) dX7_throneLine_28 ⟨Nat.le_of_ble_eq_true rfl, Nat.le_of_ble_eq_true rfl⟩) hS (fun q _ h => hFc q h) hFc (fun r u t H locs ht hvm hw hB hz1 hk1 hS => ?_)
    have hru9 := hw.2
    have hw := hw.1
    refine ex_3_4 hB (fun x_5659 x_5660 x_5661 b_x_5661 e_x_5659_0 e_x_5659_1 e_x_5659_2 hB => ?_)
    obtain ⟨hP, hD⟩ := Bw.goN (ws' := [(oc7 oM iM_thrown rM_tape iM_taped iM_size x_5649 x_5650 x_5651 x_5652 x_5653 x_5659 x_5660 iM_trouble rM_letters x_5661 iM_hasCourt rM_r rM_fresh rM_told rM_read rM_st rM_undone rM_kept iM_undos iM_images rM_fresher iM_fresherSize iM_scale iM_night rM_heardRow rM_cutRow iM_breaths iM_cutMany iM_allBreaths rM_trial rM_words iM_fewestBreaths iM_orderMany iM_orderSum iM_leastOrder rM_often iM_setMany iM_someOf iM_allOf iM_allWeight iM_enoughWeight iM_worthSum iM_firstRest iM_leastDrawn), (arI rM_tape kM_tape 900 fM_tape), (arI rM_letters kM_letters 8 f_5657), (arI rM_fresh kM_fresh 287 fM_fresh), (arI rM_read kM_read 90 fM_read)]) hB rfl ht hP hD _ hMs hk1 hFc rfl
    clear hz1 hk1 hvm ht hB hMs
    rw [← hru9] at e_x_5659_2
    obtain ⟨x_5662, rfl⟩ : ∃ z, z = r := ⟨_, rfl⟩
    have hG := hG.trans (un4_eq e_x_5659_2)
    have lx_5662 := hw.2
    have ux_5662 := hw.2
    clear e_x_5659_1
    have h_5663 : x_5662.toInt < (fM_fresh 1).toInt := lx_5662.2.1 (om_60c3b8c8 pl_fM_fresh.2.2.2.2.1.2 cx_5618 gc_5619)
    refine lv_istore_n (lv' := [(1, .int x_5662), (0, .ref oM)]) hx hb dX7_throneLine_31 rfl hl (by decide) rfl (fun ls hl => ?_)
    refine lv_aload_n hx hb dX7_throneLine_32 rfl (lv_at hl 1 rfl) ?_
    have hMs := ml_of hD [true, true, true, false, false] (wc := [(oc7 oM iM_thrown rM_tape iM_taped iM_size x_5649 x_5650 x_5651 x_5652 x_5653 x_5659 x_5660 iM_trouble rM_letters x_5661 iM_hasCourt rM_r rM_fresh rM_told rM_read rM_st rM_undone rM_kept iM_undos iM_images rM_fresher iM_fresherSize iM_scale iM_night rM_heardRow rM_cutRow iM_breaths iM_cutMany iM_allBreaths rM_trial rM_words iM_fewestBreaths iM_orderMany iM_orderSum iM_leastOrder rM_often iM_setMany iM_someOf iM_allOf iM_allWeight iM_enoughWeight iM_worthSum iM_firstRest iM_leastDrawn), (arI rM_tape kM_tape 900 fM_tape), (arI rM_letters kM_letters 8 f_5657)]) rfl
    have hFc := va_freeM hD hS hA _ hMs
    refine va_callv (va_runV (As := []) (rest := []) ⟨hx, hb, hml, hown, hts⟩ (tX7_pass l dC dI _ oM iM_thrown rM_tape fM_tape kM_tape iM_taped iM_size x_5649 x_5650 x_5651 x_5652 x_5653 x_5659 x_5660 iM_trouble rM_letters f_5657 kM_letters x_5661 iM_hasCourt rM_r rM_fresh rM_told rM_read rM_st rM_undone rM_kept iM_undos iM_images rM_fresher iM_fresherSize iM_scale iM_night rM_heardRow rM_cutRow iM_breaths iM_cutMany iM_allBreaths rM_trial rM_words iM_fewestBreaths iM_orderMany iM_orderSum iM_leastOrder rM_often iM_setMany iM_someOf iM_allOf iM_allWeight iM_enoughWeight iM_worthSum iM_firstRest iM_leastDrawn b_iM_taped b_iM_size b_x_5650 b_x_5653 b_x_5661 b_iM_hasCourt b_iM_undos b_iM_images b_iM_scale b_iM_breaths b_iM_cutMany e_x_5649_1) (cwV 0 hts (wd_V wd_454 wd_455 wd_456 wd_5 (wd_c wd_457)) rfl rfl rfl dv_yX7_pass_0 ⟨Nat.le_of_ble_eq_true rfl, Nat.le_of_ble_eq_true rfl⟩) ⟨Pw.fb, recvX7 hK hP (q0 := 0) rfl, fun U hU hW => Pw.to (hP.ms _ hMs) (hD.ms _ hMs) (hK.ms [true, true, false, false] rfl) hE hS hFc hU hW⟩ rfl rfl hl.1 rfl (lv_room (Nat.le_of_ble_eq_true rfl)) dX7_throneLine_33 ⟨Nat.le_of_ble_eq_true rfl, Nat.le_of_ble_eq_true rfl⟩) hS (fun q _ h => hFc q h) hFc (fun u t H locs ht hvm hw hB hz1 hk1 hS => ?_)
    refine ex_6_6 hB (fun x_5664 x_5665 x_5666 x_5667 x_5668 f_5669 b_x_5665 b_x_5668 e_x_5664_0 e_x_5664_1 e_x_5664_2 e_x_5664_3 hB => ?_)
    obtain ⟨hP, hD⟩ := Bw.goN (ws' := [(oc7 oM iM_thrown rM_tape iM_taped iM_size x_5664 x_5665 x_5666 x_5667 x_5668 x_5659 x_5660 iM_trouble rM_letters x_5661 iM_hasCourt rM_r rM_fresh rM_told rM_read rM_st rM_undone rM_kept iM_undos iM_images rM_fresher iM_fresherSize iM_scale iM_night rM_heardRow rM_cutRow iM_breaths iM_cutMany iM_allBreaths rM_trial rM_words iM_fewestBreaths iM_orderMany iM_orderSum iM_leastOrder rM_often iM_setMany iM_someOf iM_allOf iM_allWeight iM_enoughWeight iM_worthSum iM_firstRest iM_leastDrawn), (arI rM_tape kM_tape 900 fM_tape), (arI rM_letters kM_letters 8 f_5669), (arI rM_fresh kM_fresh 287 fM_fresh), (arI rM_read kM_read 90 fM_read)]) hB rfl ht hP hD _ hMs hk1 hFc rfl
    clear hz1 hk1 hvm ht hB hMs
    have hG := hG.trans (un6_eq e_x_5664_3)
    clear e_x_5649_1
    clear e_x_5649_4
    refine lv_aload_n hx hb dX7_throneLine_36 rfl (lv_at hl 1 rfl) ?_
    refine va_get (D := (dC, dI)) (ci := 7) (v := .int x_5661) (C := RX7) (T := TX7) (N := 48) hx hb hts inX7 hown hK hP 0 rfl rfl 13 (by decide) (hts _ wd_380) (fun _ h9 => h9) rfl dX7_throneLine_37 ?_
    refine lv_if_ne (tgt := 51) hx hb dX7_throneLine_40 (by decide) (fun c_5670 => ?_) (fun c_5670 => ?_)
    · skip
      have hG := hG.trans (if_neg c_5670)
      have gc_5670 := ti_ne c_5670 rfl kc_0
      replace gc_5670 : (-1) * x_5661.toInt + 1 ≤ 0 := om_e3003f79 gc_5670 b_x_5661.1
      exact wq_v hx hb hr 0 trivial (fun t ht hW => ⟨x_5664, x_5665, x_5666, x_5667, x_5668, x_5659, x_5660, x_5661, f_5669, fM_fresh, b_x_5665, b_x_5668, b_x_5661, (om_9348f5ae e_x_5649_0 e_x_5664_0), e_x_5664_1, (om_be042b3b b_iM_failed.2 gc_5670), (fun h9 => False.elim (om_a5fe015d gc_5670 h9.1)), r_P, hG, Bw.to hP hD hK ht hW⟩) hS dX7_throneLine_51 hlocks
    · skip
      have hG := hG.trans (if_pos c_5670)
      have gc_5670 := ti_eq c_5670 rfl kc_0
      exact ((om_5c6c3440 e_x_5645_0 e_x_5649_2 e_x_5659_0 gc_5670)).elim
set_option maxHeartbeats 4000000 in
set_option maxRecDepth 100000 in
theorem tX7_saidLine (l : Launch) (dC : Nat → ClassId) (dI : Nat → Nat → Nat) (sz : Nat) (oM : Nat) (iM_thrown : Int32) (rM_tape : Nat) (fM_tape : Nat → Int32) (kM_tape : ClassId) (iM_taped : Int32) (iM_size : Int32) (iM_at : Int32) (iM_end : Int32) (iM_token : Int32) (iM_whole : Int32) (iM_nameSize : Int32) (iM_fault : Int32) (iM_place : Int32) (iM_trouble : Int32) (rM_letters : Nat) (fM_letters : Nat → Int32) (kM_letters : ClassId) (iM_failed : Int32) (iM_hasCourt : Int32) (rM_r : Nat) (rM_fresh : Nat) (fM_fresh : Nat → Int32) (kM_fresh : ClassId) (rM_told : Nat) (rM_read : Nat) (fM_read : Nat → Int32) (kM_read : ClassId) (rM_st : Nat) (rM_undone : Nat) (rM_kept : Nat) (iM_undos : Int32) (iM_images : Int32) (rM_fresher : Nat) (iM_fresherSize : Int32) (iM_scale : Int32) (iM_night : Int32) (rM_heardRow : Nat) (rM_cutRow : Nat) (iM_breaths : Int32) (iM_cutMany : Int32) (iM_allBreaths : Int32) (rM_trial : Nat) (rM_words : Nat) (iM_fewestBreaths : Int32) (iM_orderMany : Int32) (iM_orderSum : Int32) (iM_leastOrder : Int32) (rM_often : Nat) (iM_setMany : Int32) (iM_someOf : Int32) (iM_allOf : Int32) (iM_allWeight : Int64) (iM_enoughWeight : Int64) (iM_worthSum : Int64) (iM_firstRest : Int32) (iM_leastDrawn : Int32) (b_iM_taped : 0 ≤ iM_taped.toInt ∧ iM_taped.toInt ≤ 900) (b_iM_size : 0 ≤ iM_size.toInt ∧ iM_size.toInt ≤ 900) (b_iM_end : 0 ≤ iM_end.toInt ∧ iM_end.toInt ≤ 900) (b_iM_nameSize : 0 ≤ iM_nameSize.toInt ∧ iM_nameSize.toInt ≤ 900) (b_iM_failed : 0 ≤ iM_failed.toInt ∧ iM_failed.toInt ≤ 1) (b_iM_hasCourt : 0 ≤ iM_hasCourt.toInt ∧ iM_hasCourt.toInt ≤ 1) (b_iM_undos : 0 ≤ iM_undos.toInt ∧ iM_undos.toInt ≤ 16) (b_iM_images : 0 ≤ iM_images.toInt ∧ iM_images.toInt ≤ 3) (b_iM_scale : 1 ≤ iM_scale.toInt ∧ iM_scale.toInt ≤ 1296) (b_iM_breaths : 0 ≤ iM_breaths.toInt ∧ iM_breaths.toInt ≤ 399) (b_iM_cutMany : 0 ≤ iM_cutMany.toInt ∧ iM_cutMany.toInt ≤ 399) (r_T : ImpP (iM_token.toInt = 2) (iM_nameSize.toInt ≤ 8)) (r_P : POk fM_fresh fM_read)  : Met l yX7_saidLine (Cond.code yX7_saidLine cX7_saidLine 2 none :: wG) ({ frames := 6, cells := 0, slots := 0, locals := 156 }) (va_Pc [.ref oM] (Pw dC dI sz [(oc7 oM iM_thrown rM_tape iM_taped iM_size iM_at iM_end iM_token iM_whole iM_nameSize iM_fault iM_place iM_trouble rM_letters iM_failed iM_hasCourt rM_r rM_fresh rM_told rM_read rM_st rM_undone rM_kept iM_undos iM_images rM_fresher iM_fresherSize iM_scale iM_night rM_heardRow rM_cutRow iM_breaths iM_cutMany iM_allBreaths rM_trial rM_words iM_fewestBreaths iM_orderMany iM_orderSum iM_leastOrder rM_often iM_setMany iM_someOf iM_allOf iM_allWeight iM_enoughWeight iM_worthSum iM_firstRest iM_leastDrawn), (arI rM_tape kM_tape 900 fM_tape), (arI rM_letters kM_letters 8 fM_letters), (arI rM_fresh kM_fresh 287 fM_fresh), (arI rM_read kM_read 90 fM_read)] [(kM_tape, .int), (kM_letters, .int), (kM_fresh, .int), (kM_read, .int)])) (va_Qv (fun (_ : Nat) => True) (fun (_ : Nat) (t : State) => ∃ (niM_at : Int32) (niM_end : Int32) (niM_token : Int32) (niM_whole : Int32) (niM_nameSize : Int32) (niM_fault : Int32) (niM_place : Int32) (niM_failed : Int32) (nfM_letters : Nat → Int32) (nfM_fresh : Nat → Int32), (0 ≤ niM_end.toInt ∧ niM_end.toInt ≤ 900) ∧ (0 ≤ niM_nameSize.toInt ∧ niM_nameSize.toInt ≤ 900) ∧ (0 ≤ niM_failed.toInt ∧ niM_failed.toInt ≤ 1) ∧ (iM_end.toInt ≤ niM_end.toInt) ∧ (ImpP (niM_token.toInt = 2) (niM_nameSize.toInt ≤ 8)) ∧ (iM_failed.toInt ≤ niM_failed.toInt) ∧ (ImpP (niM_failed.toInt ≤ 0 ∧ niM_token.toInt = 59 ) (iM_end.toInt + 1 ≤ niM_end.toInt)) ∧ (POk nfM_fresh fM_read) ∧ (PX7_saidLine fM_tape iM_size iM_at iM_end iM_token iM_whole iM_nameSize iM_fault iM_place fM_letters iM_failed fM_fresh = (niM_at, niM_end, niM_token, niM_whole, niM_nameSize, niM_fault, niM_place, niM_failed, nfM_letters, nfM_fresh)) ∧ Bw dC dI (va_A [(oc7 oM iM_thrown rM_tape iM_taped iM_size iM_at iM_end iM_token iM_whole iM_nameSize iM_fault iM_place iM_trouble rM_letters iM_failed iM_hasCourt rM_r rM_fresh rM_told rM_read rM_st rM_undone rM_kept iM_undos iM_images rM_fresher iM_fresherSize iM_scale iM_night rM_heardRow rM_cutRow iM_breaths iM_cutMany iM_allBreaths rM_trial rM_words iM_fewestBreaths iM_orderMany iM_orderSum iM_leastOrder rM_often iM_setMany iM_someOf iM_allOf iM_allWeight iM_enoughWeight iM_worthSum iM_firstRest iM_leastDrawn), (arI rM_tape kM_tape 900 fM_tape), (arI rM_letters kM_letters 8 fM_letters), (arI rM_fresh kM_fresh 287 fM_fresh), (arI rM_read kM_read 90 fM_read)] sz) [(oc7 oM iM_thrown rM_tape iM_taped iM_size niM_at niM_end niM_token niM_whole niM_nameSize niM_fault niM_place iM_trouble rM_letters niM_failed iM_hasCourt rM_r rM_fresh rM_told rM_read rM_st rM_undone rM_kept iM_undos iM_images rM_fresher iM_fresherSize iM_scale iM_night rM_heardRow rM_cutRow iM_breaths iM_cutMany iM_allBreaths rM_trial rM_words iM_fewestBreaths iM_orderMany iM_orderSum iM_leastOrder rM_often iM_setMany iM_someOf iM_allOf iM_allWeight iM_enoughWeight iM_worthSum iM_firstRest iM_leastDrawn), (arI rM_tape kM_tape 900 fM_tape), (arI rM_letters kM_letters 8 nfM_letters), (arI rM_fresh kM_fresh 287 nfM_fresh), (arI rM_read kM_read 90 fM_read)] [(kM_tape, .int), (kM_letters, .int), (kM_fresh, .int), (kM_read, .int)] t) (va_A [(oc7 oM iM_thrown rM_tape iM_taped iM_size iM_at iM_end iM_token iM_whole iM_nameSize iM_fault iM_place iM_trouble rM_letters iM_failed iM_hasCourt rM_r rM_fresh rM_told rM_read rM_st rM_undone rM_kept iM_undos iM_images rM_fresher iM_fresherSize iM_scale iM_night rM_heardRow rM_cutRow iM_breaths iM_cutMany iM_allBreaths rM_trial rM_words iM_fewestBreaths iM_orderMany iM_orderSum iM_leastOrder rM_often iM_setMany iM_someOf iM_allOf iM_allWeight iM_enoughWeight iM_worthSum iM_firstRest iM_leastDrawn), (arI rM_tape kM_tape 900 fM_tape), (arI rM_letters kM_letters 8 fM_letters), (arI rM_fresh kM_fresh 287 fM_fresh), (arI rM_read kM_read 90 fM_read)] sz)) 0 0 (va_A [(oc7 oM iM_thrown rM_tape iM_taped iM_size iM_at iM_end iM_token iM_whole iM_nameSize iM_fault iM_place iM_trouble rM_letters iM_failed iM_hasCourt rM_r rM_fresh rM_told rM_read rM_st rM_undone rM_kept iM_undos iM_images rM_fresher iM_fresherSize iM_scale iM_night rM_heardRow rM_cutRow iM_breaths iM_cutMany iM_allBreaths rM_trial rM_words iM_fewestBreaths iM_orderMany iM_orderSum iM_leastOrder rM_often iM_setMany iM_someOf iM_allOf iM_allWeight iM_enoughWeight iM_worthSum iM_firstRest iM_leastDrawn), (arI rM_tape kM_tape 900 fM_tape), (arI rM_letters kM_letters 8 fM_letters), (arI rM_fresh kM_fresh 287 fM_fresh), (arI rM_read kM_read 90 fM_read)] sz) := by
  refine Met.ofW (cc := cX7_saidLine) (maxL := 2) (ret := none) pnX7 rfl ?_
  intro p e s m args below meth c s₁ B hml hv
  obtain ⟨rfl, hsz, hP, hK, hD0, hE⟩ := hv
  have hx := B.exec
  have hb := B.bytes
  have hr := B.returns
  have hts : ∀ w ∈ wG, w.before ([.ref oM] : List Value).toArray s = true := fun w h => atoms_spec (ws := Cond.code yX7_saidLine cX7_saidLine 2 none :: wG) B.pre w (List.mem_cons_of_mem _ h)
  have hown : s.vm.findClass RX7 = some m.cls := own_of B.named rfl
  have hlocks := B.notSynchronized
  subst hsz
  have hD := hD0.self (sz := s.heap.size)
  generalize hAe : va_A [(oc7 oM iM_thrown rM_tape iM_taped iM_size iM_at iM_end iM_token iM_whole iM_nameSize iM_fault iM_place iM_trouble rM_letters iM_failed iM_hasCourt rM_r rM_fresh rM_told rM_read rM_st rM_undone rM_kept iM_undos iM_images rM_fresher iM_fresherSize iM_scale iM_night rM_heardRow rM_cutRow iM_breaths iM_cutMany iM_allBreaths rM_trial rM_words iM_fewestBreaths iM_orderMany iM_orderSum iM_leastOrder rM_often iM_setMany iM_someOf iM_allOf iM_allWeight iM_enoughWeight iM_worthSum iM_firstRest iM_leastDrawn), (arI rM_tape kM_tape 900 fM_tape), (arI rM_letters kM_letters 8 fM_letters), (arI rM_fresh kM_fresh 287 fM_fresh), (arI rM_read kM_read 90 fM_read)] s.heap.size = A at hD hE ⊢
  have hA : ∀ q : Nat, s.heap.size ≤ q → A q := fun q h => by rw [← hAe]; exact Or.inr h
  have hS : va_S A s.heap s.heap [] := va_S.rf
  have hl := lv_entry ([.ref oM]) (n := 2) (Nat.le_of_ble_eq_true rfl)
  rw [lg_entry_eq]
  generalize (lg_sl ([.ref oM]) ++ List.replicate (2 - (lg_sl ([.ref oM])).length) Slot.unset).toArray = ls at hl ⊢
  have hl : lv_has ls 2 [(0, .ref oM)] := hl
  have hG := PX7_saidLine_eq fM_tape iM_size iM_at iM_end iM_token iM_whole iM_nameSize iM_fault iM_place fM_letters iM_failed fM_fresh
  have pl_fM_fresh := r_P.lins
  refine lv_aload_n hx hb dX7_saidLine_0 rfl (lv_at hl 0 rfl) ?_
  refine va_get (D := (dC, dI)) (ci := 7) (v := .ref rM_fresh) (C := RX7) (T := TX7) (N := 48) hx hb hts inX7 hown hK hP 0 rfl rfl 16 (by decide) (hts _ wd_156) (fun _ h9 => h9) rfl dX7_saidLine_1 ?_
  refine lv_iconst (v := 4) hx hb dX7_saidLine_4 (by decide) ?_
  refine va_iald hx hb hK hP 3 2 rfl rfl (by unfold vp_in; decide) dX7_saidLine_5 ?_
  refine lv_topi (fun x_5722 ex_5722 => ?_)
  have hG := hG.trans (lt_eq ex_5722)
  have cx_5722 : (fM_fresh 4).toInt = x_5722.toInt := congrArg Int32.toInt (show fM_fresh 4 = x_5722 from ex_5722.symm)
  refine lv_if_le (tgt := 18) hx hb dX7_saidLine_6 (by decide) (fun c_5723 => ?_) (fun c_5723 => ?_)
  · skip
    have hG := hG.trans (if_pos c_5723)
    have gc_5723 := ti_le c_5723 rfl kc_0
    refine lv_aload_n hx hb dX7_saidLine_18 rfl (lv_at hl 0 rfl) ?_
    obtain ⟨sa_5724, vsa_5724, nsa_5724, fsa_5724, hnsa_5724, hnesa_5724, hfesa_5724, hRsa_5724, hSsa_5724⟩ := hE.2.2.1 (148, "said", [115, 97, 105, 100]) (by decide)
    have hG := hG.trans (lt_eq hnesa_5724)
    have hG := hG.trans (lt_eq hfesa_5724)
    refine va_ldcS hx hb hown hRsa_5724 dX7_saidLine_19 ?_
    refine lv_iconst (v := 1) hx hb dX7_saidLine_21 (by decide) ?_
    have hFc := va_freeI hD hS hA
    refine va_calli (va_runV (As := [.ref sa_5724, .int 1]) (rest := []) ⟨hx, hb, hml, hown, hts⟩ (tX7_begins l dC dI _ oM iM_thrown rM_tape fM_tape kM_tape iM_taped iM_size iM_at iM_end iM_token iM_whole iM_nameSize iM_fault iM_place iM_trouble rM_letters fM_letters kM_letters iM_failed iM_hasCourt rM_r rM_fresh fM_fresh kM_fresh rM_told rM_read fM_read kM_read rM_st rM_undone rM_kept iM_undos iM_images rM_fresher iM_fresherSize iM_scale iM_night rM_heardRow rM_cutRow iM_breaths iM_cutMany iM_allBreaths rM_trial rM_words iM_fewestBreaths iM_orderMany iM_orderSum iM_leastOrder rM_often iM_setMany iM_someOf iM_allOf iM_allWeight iM_enoughWeight iM_worthSum iM_firstRest iM_leastDrawn sa_5724 1 vsa_5724 nsa_5724 fsa_5724 b_iM_taped b_iM_size b_iM_end b_iM_nameSize b_iM_failed b_iM_hasCourt b_iM_undos b_iM_images b_iM_scale b_iM_breaths b_iM_cutMany r_T r_P (Nat.le_trans (Nat.le_of_eq hnesa_5724) (by decide)) ⟨(om_1b364b1c kc_1), (om_02032f93 kc_1)⟩) (cwV 2 hts (wd_V wd_450 wd_451 wd_452 wd_5 (wd_c wd_453)) rfl rfl rfl dv_yX7_begins_2 ⟨Nat.le_of_ble_eq_true rfl, Nat.le_of_ble_eq_true rfl⟩) ⟨Pq.fb, recvX7 hK hP (q0 := 0) rfl, fun U hU hW => Pq.to hP hD hK hSsa_5724 hE hS hFc hU hW⟩ rfl rfl hl.1 rfl (lv_room (Nat.le_of_ble_eq_true rfl)) dX7_saidLine_22 ⟨Nat.le_of_ble_eq_true rfl, Nat.le_of_ble_eq_true rfl⟩) hS (fun q _ h => hFc q h) hFc (fun r u t H locs ht hvm hw hB hz1 hk1 hS => ?_)
    have hru9 := hw.2
    have hw := hw.1
    refine ex_9_9 hB (fun x_5725 x_5726 x_5727 x_5728 x_5729 x_5730 x_5731 x_5732 f_5733 b_x_5726 b_x_5729 b_x_5732 e_x_5725_0 e_x_5725_1 e_x_5725_2 e_x_5725_3 e_x_5725_4 e_x_5725_5 hB => ?_)
    obtain ⟨hP, hD⟩ := Bw.goA (ws' := [(oc7 oM iM_thrown rM_tape iM_taped iM_size x_5725 x_5726 x_5727 x_5728 x_5729 x_5730 x_5731 iM_trouble rM_letters x_5732 iM_hasCourt rM_r rM_fresh rM_told rM_read rM_st rM_undone rM_kept iM_undos iM_images rM_fresher iM_fresherSize iM_scale iM_night rM_heardRow rM_cutRow iM_breaths iM_cutMany iM_allBreaths rM_trial rM_words iM_fewestBreaths iM_orderMany iM_orderSum iM_leastOrder rM_often iM_setMany iM_someOf iM_allOf iM_allWeight iM_enoughWeight iM_worthSum iM_firstRest iM_leastDrawn), (arI rM_tape kM_tape 900 fM_tape), (arI rM_letters kM_letters 8 f_5733), (arI rM_fresh kM_fresh 287 fM_fresh), (arI rM_read kM_read 90 fM_read)]) hB rfl ht hFc rfl
    clear hz1 hk1 hvm ht hB
    rw [← hru9] at e_x_5725_5
    obtain ⟨x_5734, rfl⟩ : ∃ z, z = r := ⟨_, rfl⟩
    have hG := hG.trans (un10_eq e_x_5725_5)
    have bx_5734 := hw.1
    have dx_5734 := bz_tb bx_5734
    have lx_5734 := hw.2
    clear r_T
    refine lv_pop hx hb dX7_saidLine_25 rfl ?_
    refine lv_aload_n hx hb dX7_saidLine_26 rfl (lv_at hl 0 rfl) ?_
    refine lv_iconst (v := 0) hx hb dX7_saidLine_27 (by decide) ?_
    refine lv_bipush (v := 99) hx hb dX7_saidLine_28 (by decide) ?_
    have hMs := ml_of hD [true, true, true, false, false] (wc := [(oc7 oM iM_thrown rM_tape iM_taped iM_size x_5725 x_5726 x_5727 x_5728 x_5729 x_5730 x_5731 iM_trouble rM_letters x_5732 iM_hasCourt rM_r rM_fresh rM_told rM_read rM_st rM_undone rM_kept iM_undos iM_images rM_fresher iM_fresherSize iM_scale iM_night rM_heardRow rM_cutRow iM_breaths iM_cutMany iM_allBreaths rM_trial rM_words iM_fewestBreaths iM_orderMany iM_orderSum iM_leastOrder rM_often iM_setMany iM_someOf iM_allOf iM_allWeight iM_enoughWeight iM_worthSum iM_firstRest iM_leastDrawn), (arI rM_tape kM_tape 900 fM_tape), (arI rM_letters kM_letters 8 f_5733)]) rfl
    have hFc := va_freeM hD hS hA _ hMs
    refine va_calli (va_runV (As := [.int 0, .int 99]) (rest := []) ⟨hx, hb, hml, hown, hts⟩ (tX7_number l dC dI _ oM iM_thrown rM_tape fM_tape kM_tape iM_taped iM_size x_5725 x_5726 x_5727 x_5728 x_5729 x_5730 x_5731 iM_trouble rM_letters f_5733 kM_letters x_5732 iM_hasCourt rM_r rM_fresh rM_told rM_read rM_st rM_undone rM_kept iM_undos iM_images rM_fresher iM_fresherSize iM_scale iM_night rM_heardRow rM_cutRow iM_breaths iM_cutMany iM_allBreaths rM_trial rM_words iM_fewestBreaths iM_orderMany iM_orderSum iM_leastOrder rM_often iM_setMany iM_someOf iM_allOf iM_allWeight iM_enoughWeight iM_worthSum iM_firstRest iM_leastDrawn 0 99 b_iM_taped b_iM_size b_x_5726 b_x_5729 b_x_5732 b_iM_hasCourt b_iM_undos b_iM_images b_iM_scale b_iM_breaths b_iM_cutMany e_x_5725_1 (om_b0b40937 kc_0 kc_99)) (cwV 2 hts (wd_V wd_446 wd_447 wd_448 wd_5 (wd_c wd_449)) rfl rfl rfl dv_yX7_number_2 ⟨Nat.le_of_ble_eq_true rfl, Nat.le_of_ble_eq_true rfl⟩) ⟨Pw.fb, recvX7 hK hP (q0 := 0) rfl, fun U hU hW => Pw.to (hP.ms _ hMs) (hD.ms _ hMs) (hK.ms [true, true, false, false] rfl) hE hS hFc hU hW⟩ rfl rfl hl.1 rfl (lv_room (Nat.le_of_ble_eq_true rfl)) dX7_saidLine_30 ⟨Nat.le_of_ble_eq_true rfl, Nat.le_of_ble_eq_true rfl⟩) hS (fun q _ h => hFc q h) hFc (fun r u t H locs ht hvm hw hB hz1 hk1 hS => ?_)
    have hru9 := hw.2
    have hw := hw.1
    refine ex_9_8 hB (fun x_5735 x_5736 x_5737 x_5738 x_5739 x_5740 x_5741 x_5742 f_5743 b_x_5736 b_x_5739 b_x_5742 e_x_5735_0 e_x_5735_1 e_x_5735_2 e_x_5735_3 e_x_5735_4 hB => ?_)
    obtain ⟨hP, hD⟩ := Bw.goN (ws' := [(oc7 oM iM_thrown rM_tape iM_taped iM_size x_5735 x_5736 x_5737 x_5738 x_5739 x_5740 x_5741 iM_trouble rM_letters x_5742 iM_hasCourt rM_r rM_fresh rM_told rM_read rM_st rM_undone rM_kept iM_undos iM_images rM_fresher iM_fresherSize iM_scale iM_night rM_heardRow rM_cutRow iM_breaths iM_cutMany iM_allBreaths rM_trial rM_words iM_fewestBreaths iM_orderMany iM_orderSum iM_leastOrder rM_often iM_setMany iM_someOf iM_allOf iM_allWeight iM_enoughWeight iM_worthSum iM_firstRest iM_leastDrawn), (arI rM_tape kM_tape 900 fM_tape), (arI rM_letters kM_letters 8 f_5743), (arI rM_fresh kM_fresh 287 fM_fresh), (arI rM_read kM_read 90 fM_read)]) hB rfl ht hP hD _ hMs hk1 hFc rfl
    clear hz1 hk1 hvm ht hB hMs
    rw [← hru9] at e_x_5735_4
    obtain ⟨x_5744, rfl⟩ : ∃ z, z = r := ⟨_, rfl⟩
    have hG := hG.trans (un10_eq e_x_5735_4)
    have lx_5744 := hw.2
    have kl_0 := kc_0
    have kl_99 := kc_99
    clear e_x_5725_1
    clear e_x_5725_4
    refine lv_istore_n (lv' := [(1, .int x_5744), (0, .ref oM)]) hx hb dX7_saidLine_33 rfl hl (by decide) rfl (fun ls hl => ?_)
    refine lv_aload_n hx hb dX7_saidLine_34 rfl (lv_at hl 1 rfl) ?_
    refine va_get (D := (dC, dI)) (ci := 7) (v := .int x_5742) (C := RX7) (T := TX7) (N := 48) hx hb hts inX7 hown hK hP 0 rfl rfl 13 (by decide) (hts _ wd_380) (fun _ h9 => h9) rfl dX7_saidLine_35 ?_
    refine lv_if_ne (tgt := 50) hx hb dX7_saidLine_38 (by decide) (fun c_5745 => ?_) (fun c_5745 => ?_)
    · skip
      have hG := hG.trans (if_neg c_5745)
      have gc_5745 := ti_ne c_5745 rfl kc_0
      replace gc_5745 : (-1) * x_5742.toInt + 1 ≤ 0 := om_e3003f79 gc_5745 b_x_5742.1
      exact wq_v hx hb hr 0 trivial (fun t ht hW => ⟨x_5735, x_5736, x_5737, x_5738, x_5739, x_5740, x_5741, x_5742, f_5743, fM_fresh, b_x_5736, b_x_5739, b_x_5742, (om_9348f5ae e_x_5725_0 e_x_5735_0), e_x_5735_1, (om_9348f5ae e_x_5725_2 e_x_5735_2), (fun h9 => False.elim (om_a5fe015d gc_5745 h9.1)), r_P, hG, Bw.to hP hD hK ht hW⟩) hS dX7_saidLine_50 hlocks
    · skip
      have hG := hG.trans (if_pos c_5745)
      have gc_5745 := ti_eq c_5745 rfl kc_0
      refine lv_aload_n hx hb dX7_saidLine_41 rfl (lv_at hl 1 rfl) ?_
      refine va_get (D := (dC, dI)) (ci := 7) (v := .ref rM_fresh) (C := RX7) (T := TX7) (N := 48) hx hb hts inX7 hown hK hP 0 rfl rfl 16 (by decide) (hts _ wd_156) (fun _ h9 => h9) rfl dX7_saidLine_42 ?_
      refine lv_iconst (v := 4) hx hb dX7_saidLine_45 (by decide) ?_
      refine lv_iload_n hx hb dX7_saidLine_46 rfl (lv_at hl 0 rfl) ?_
      refine lv_iconst (v := 1) hx hb dX7_saidLine_47 (by decide) ?_
      refine lv_iadd hx hb dX7_saidLine_48 ?_
      refine lv_topi (fun x_5746 ex_5746 => ?_)
      have hG := hG.trans (lt_eq ex_5746)
      have vx_5746 : x_5746.toInt = x_5744.toInt + 1 := ti_add ex_5746 rfl kc_1 (om_55679156 lx_5744.1 kc_0) (om_a705d0e8 lx_5744.2 kc_99)
      refine va_iast hx hb hK hP hD hS 3 2 rfl rfl (by unfold vp_in; decide) dX7_saidLine_49 (fun H locs hP hD hS => ?_)
      obtain ⟨f_5747, ef_5747⟩ : ∃ g : Nat → Int32, g = upd fM_fresh (4 : Int32).toNatClampNeg x_5746 := ⟨_, rfl⟩
      rw [← ef_5747] at hP hD
      have hG := hG.trans (lt_eq ef_5747)
      obtain ⟨hP, hD⟩ := wl2 (ws' := [(oc7 oM iM_thrown rM_tape iM_taped iM_size x_5735 x_5736 x_5737 x_5738 x_5739 x_5740 x_5741 iM_trouble rM_letters x_5742 iM_hasCourt rM_r rM_fresh rM_told rM_read rM_st rM_undone rM_kept iM_undos iM_images rM_fresher iM_fresherSize iM_scale iM_night rM_heardRow rM_cutRow iM_breaths iM_cutMany iM_allBreaths rM_trial rM_words iM_fewestBreaths iM_orderMany iM_orderSum iM_leastOrder rM_often iM_setMany iM_someOf iM_allOf iM_allWeight iM_enoughWeight iM_worthSum iM_firstRest iM_leastDrawn), (arI rM_tape kM_tape 900 fM_tape), (arI rM_letters kM_letters 8 f_5743), (arI rM_fresh kM_fresh 287 f_5747), (arI rM_read kM_read 90 fM_read)]) hP hD rfl
      have pk_f_5747 : POk f_5747 fM_read := POk.put r_P ef_5747 (Or.inr (Or.inl (by have q9 : ((4 : Int32).toNatClampNeg : Nat) = 4 := rfl; omega)))
      have pl_f_5747 := pk_f_5747.lins
      exact wq_v hx hb hr 0 trivial (fun t ht hW => ⟨x_5735, x_5736, x_5737, x_5738, x_5739, x_5740, x_5741, x_5742, f_5743, f_5747, b_x_5736, b_x_5739, b_x_5742, (om_9348f5ae e_x_5725_0 e_x_5735_0), e_x_5735_1, (om_9348f5ae e_x_5725_2 e_x_5735_2), (fun h9 => (om_7ed234da e_x_5725_0 (e_x_5735_3 ⟨(om_02e9bb08 gc_5745), h9.2⟩))), pk_f_5747, hG, Bw.to hP hD hK ht hW⟩) hS dX7_saidLine_50 hlocks
  · skip
    have hG := hG.trans (if_neg c_5723)
    have gc_5723 := ti_nle c_5723 rfl kc_0
    refine lv_aload_n hx hb dX7_saidLine_9 rfl (lv_at hl 0 rfl) ?_
    refine lv_iconst (v := 3) hx hb dX7_saidLine_10 (by decide) ?_
    refine lv_aload_n hx hb dX7_saidLine_11 rfl (lv_at hl 0 rfl) ?_
    refine va_get (D := (dC, dI)) (ci := 7) (v := .int iM_at) (C := RX7) (T := TX7) (N := 48) hx hb hts inX7 hown hK hP 0 rfl rfl 4 (by decide) (hts _ wd_384) (fun _ h9 => h9) rfl dX7_saidLine_12 ?_
    have hMs := ml_of hD [true, false, false, false, false] (wc := [(oc7 oM iM_thrown rM_tape iM_taped iM_size iM_at iM_end iM_token iM_whole iM_nameSize iM_fault iM_place iM_trouble rM_letters iM_failed iM_hasCourt rM_r rM_fresh rM_told rM_read rM_st rM_undone rM_kept iM_undos iM_images rM_fresher iM_fresherSize iM_scale iM_night rM_heardRow rM_cutRow iM_breaths iM_cutMany iM_allBreaths rM_trial rM_words iM_fewestBreaths iM_orderMany iM_orderSum iM_leastOrder rM_often iM_setMany iM_someOf iM_allOf iM_allWeight iM_enoughWeight iM_worthSum iM_firstRest iM_leastDrawn)]) rfl
    have hFc := va_freeM hD hS hA _ hMs
    refine va_callv (va_runV (As := [.int 3, .int iM_at]) (rest := []) ⟨hx, hb, hml, hown, hts⟩ (tX7_wrong l dC dI _ oM iM_thrown rM_tape iM_taped iM_size iM_at iM_end iM_token iM_whole iM_nameSize iM_fault iM_place iM_trouble rM_letters iM_failed iM_hasCourt rM_r rM_fresh rM_told rM_read rM_st rM_undone rM_kept iM_undos iM_images rM_fresher iM_fresherSize iM_scale iM_night rM_heardRow rM_cutRow iM_breaths iM_cutMany iM_allBreaths rM_trial rM_words iM_fewestBreaths iM_orderMany iM_orderSum iM_leastOrder rM_often iM_setMany iM_someOf iM_allOf iM_allWeight iM_enoughWeight iM_worthSum iM_firstRest iM_leastDrawn 3 iM_at b_iM_taped b_iM_size b_iM_end b_iM_nameSize b_iM_failed b_iM_hasCourt b_iM_undos b_iM_images b_iM_scale b_iM_breaths b_iM_cutMany r_T) (cwV 2 hts (wd_V wd_430 wd_431 wd_432 wd_5 (wd_c wd_433)) rfl rfl rfl dv_yX7_wrong_2 ⟨Nat.le_of_ble_eq_true rfl, Nat.le_of_ble_eq_true rfl⟩) ⟨Pw.fb, recvX7 hK hP (q0 := 0) rfl, fun U hU hW => Pw.to (hP.ms _ hMs) (hD.ms _ hMs) (hK.ms [false, false, false, false] rfl) hE hS hFc hU hW⟩ rfl rfl hl.1 rfl (lv_room (Nat.le_of_ble_eq_true rfl)) dX7_saidLine_15 ⟨Nat.le_of_ble_eq_true rfl, Nat.le_of_ble_eq_true rfl⟩) hS (fun q _ h => hFc q h) hFc (fun u t H locs ht hvm hw hB hz1 hk1 hS => ?_)
    refine ex_3_3 hB (fun x_5748 x_5749 x_5750 b_x_5750 e_x_5748_0 e_x_5748_1 hB => ?_)
    obtain ⟨hP, hD⟩ := Bw.goN (ws' := [(oc7 oM iM_thrown rM_tape iM_taped iM_size iM_at iM_end iM_token iM_whole iM_nameSize x_5748 x_5749 iM_trouble rM_letters x_5750 iM_hasCourt rM_r rM_fresh rM_told rM_read rM_st rM_undone rM_kept iM_undos iM_images rM_fresher iM_fresherSize iM_scale iM_night rM_heardRow rM_cutRow iM_breaths iM_cutMany iM_allBreaths rM_trial rM_words iM_fewestBreaths iM_orderMany iM_orderSum iM_leastOrder rM_often iM_setMany iM_someOf iM_allOf iM_allWeight iM_enoughWeight iM_worthSum iM_firstRest iM_leastDrawn), (arI rM_tape kM_tape 900 fM_tape), (arI rM_letters kM_letters 8 fM_letters), (arI rM_fresh kM_fresh 287 fM_fresh), (arI rM_read kM_read 90 fM_read)]) hB rfl ht hP hD _ hMs hk1 hFc rfl
    clear hz1 hk1 hvm ht hB hMs
    have hG := hG.trans (un3_eq e_x_5748_1)
    refine lv_aload_n hx hb dX7_saidLine_18 rfl (lv_at hl 0 rfl) ?_
    obtain ⟨sa_5751, vsa_5751, nsa_5751, fsa_5751, hnsa_5751, hnesa_5751, hfesa_5751, hRsa_5751, hSsa_5751⟩ := hE.2.2.1 (148, "said", [115, 97, 105, 100]) (by decide)
    have hG := hG.trans (lt_eq hnesa_5751)
    have hG := hG.trans (lt_eq hfesa_5751)
    refine va_ldcS hx hb hown hRsa_5751 dX7_saidLine_19 ?_
    refine lv_iconst (v := 1) hx hb dX7_saidLine_21 (by decide) ?_
    have hFc := va_freeI hD hS hA
    refine va_calli (va_runV (As := [.ref sa_5751, .int 1]) (rest := []) ⟨hx, hb, hml, hown, hts⟩ (tX7_begins l dC dI _ oM iM_thrown rM_tape fM_tape kM_tape iM_taped iM_size iM_at iM_end iM_token iM_whole iM_nameSize x_5748 x_5749 iM_trouble rM_letters fM_letters kM_letters x_5750 iM_hasCourt rM_r rM_fresh fM_fresh kM_fresh rM_told rM_read fM_read kM_read rM_st rM_undone rM_kept iM_undos iM_images rM_fresher iM_fresherSize iM_scale iM_night rM_heardRow rM_cutRow iM_breaths iM_cutMany iM_allBreaths rM_trial rM_words iM_fewestBreaths iM_orderMany iM_orderSum iM_leastOrder rM_often iM_setMany iM_someOf iM_allOf iM_allWeight iM_enoughWeight iM_worthSum iM_firstRest iM_leastDrawn sa_5751 1 vsa_5751 nsa_5751 fsa_5751 b_iM_taped b_iM_size b_iM_end b_iM_nameSize b_x_5750 b_iM_hasCourt b_iM_undos b_iM_images b_iM_scale b_iM_breaths b_iM_cutMany r_T r_P (Nat.le_trans (Nat.le_of_eq hnesa_5751) (by decide)) ⟨(om_1b364b1c kc_1), (om_02032f93 kc_1)⟩) (cwV 2 hts (wd_V wd_450 wd_451 wd_452 wd_5 (wd_c wd_453)) rfl rfl rfl dv_yX7_begins_2 ⟨Nat.le_of_ble_eq_true rfl, Nat.le_of_ble_eq_true rfl⟩) ⟨Pq.fb, recvX7 hK hP (q0 := 0) rfl, fun U hU hW => Pq.to hP hD hK hSsa_5751 hE hS hFc hU hW⟩ rfl rfl hl.1 rfl (lv_room (Nat.le_of_ble_eq_true rfl)) dX7_saidLine_22 ⟨Nat.le_of_ble_eq_true rfl, Nat.le_of_ble_eq_true rfl⟩) hS (fun q _ h => hFc q h) hFc (fun r u t H locs ht hvm hw hB hz1 hk1 hS => ?_)
    have hru9 := hw.2
    have hw := hw.1
    refine ex_9_9 hB (fun x_5752 x_5753 x_5754 x_5755 x_5756 x_5757 x_5758 x_5759 f_5760 b_x_5753 b_x_5756 b_x_5759 e_x_5752_0 e_x_5752_1 e_x_5752_2 e_x_5752_3 e_x_5752_4 e_x_5752_5 hB => ?_)
    obtain ⟨hP, hD⟩ := Bw.goA (ws' := [(oc7 oM iM_thrown rM_tape iM_taped iM_size x_5752 x_5753 x_5754 x_5755 x_5756 x_5757 x_5758 iM_trouble rM_letters x_5759 iM_hasCourt rM_r rM_fresh rM_told rM_read rM_st rM_undone rM_kept iM_undos iM_images rM_fresher iM_fresherSize iM_scale iM_night rM_heardRow rM_cutRow iM_breaths iM_cutMany iM_allBreaths rM_trial rM_words iM_fewestBreaths iM_orderMany iM_orderSum iM_leastOrder rM_often iM_setMany iM_someOf iM_allOf iM_allWeight iM_enoughWeight iM_worthSum iM_firstRest iM_leastDrawn), (arI rM_tape kM_tape 900 fM_tape), (arI rM_letters kM_letters 8 f_5760), (arI rM_fresh kM_fresh 287 fM_fresh), (arI rM_read kM_read 90 fM_read)]) hB rfl ht hFc rfl
    clear hz1 hk1 hvm ht hB
    rw [← hru9] at e_x_5752_5
    obtain ⟨x_5761, rfl⟩ : ∃ z, z = r := ⟨_, rfl⟩
    have hG := hG.trans (un10_eq e_x_5752_5)
    have bx_5761 := hw.1
    have dx_5761 := bz_tb bx_5761
    have lx_5761 := hw.2
    clear r_T
    refine lv_pop hx hb dX7_saidLine_25 rfl ?_
    refine lv_aload_n hx hb dX7_saidLine_26 rfl (lv_at hl 0 rfl) ?_
    refine lv_iconst (v := 0) hx hb dX7_saidLine_27 (by decide) ?_
    refine lv_bipush (v := 99) hx hb dX7_saidLine_28 (by decide) ?_
    have hMs := ml_of hD [true, true, true, false, false] (wc := [(oc7 oM iM_thrown rM_tape iM_taped iM_size x_5752 x_5753 x_5754 x_5755 x_5756 x_5757 x_5758 iM_trouble rM_letters x_5759 iM_hasCourt rM_r rM_fresh rM_told rM_read rM_st rM_undone rM_kept iM_undos iM_images rM_fresher iM_fresherSize iM_scale iM_night rM_heardRow rM_cutRow iM_breaths iM_cutMany iM_allBreaths rM_trial rM_words iM_fewestBreaths iM_orderMany iM_orderSum iM_leastOrder rM_often iM_setMany iM_someOf iM_allOf iM_allWeight iM_enoughWeight iM_worthSum iM_firstRest iM_leastDrawn), (arI rM_tape kM_tape 900 fM_tape), (arI rM_letters kM_letters 8 f_5760)]) rfl
    have hFc := va_freeM hD hS hA _ hMs
    refine va_calli (va_runV (As := [.int 0, .int 99]) (rest := []) ⟨hx, hb, hml, hown, hts⟩ (tX7_number l dC dI _ oM iM_thrown rM_tape fM_tape kM_tape iM_taped iM_size x_5752 x_5753 x_5754 x_5755 x_5756 x_5757 x_5758 iM_trouble rM_letters f_5760 kM_letters x_5759 iM_hasCourt rM_r rM_fresh rM_told rM_read rM_st rM_undone rM_kept iM_undos iM_images rM_fresher iM_fresherSize iM_scale iM_night rM_heardRow rM_cutRow iM_breaths iM_cutMany iM_allBreaths rM_trial rM_words iM_fewestBreaths iM_orderMany iM_orderSum iM_leastOrder rM_often iM_setMany iM_someOf iM_allOf iM_allWeight iM_enoughWeight iM_worthSum iM_firstRest iM_leastDrawn 0 99 b_iM_taped b_iM_size b_x_5753 b_x_5756 b_x_5759 b_iM_hasCourt b_iM_undos b_iM_images b_iM_scale b_iM_breaths b_iM_cutMany e_x_5752_1 (om_b0b40937 kc_0 kc_99)) (cwV 2 hts (wd_V wd_446 wd_447 wd_448 wd_5 (wd_c wd_449)) rfl rfl rfl dv_yX7_number_2 ⟨Nat.le_of_ble_eq_true rfl, Nat.le_of_ble_eq_true rfl⟩) ⟨Pw.fb, recvX7 hK hP (q0 := 0) rfl, fun U hU hW => Pw.to (hP.ms _ hMs) (hD.ms _ hMs) (hK.ms [true, true, false, false] rfl) hE hS hFc hU hW⟩ rfl rfl hl.1 rfl (lv_room (Nat.le_of_ble_eq_true rfl)) dX7_saidLine_30 ⟨Nat.le_of_ble_eq_true rfl, Nat.le_of_ble_eq_true rfl⟩) hS (fun q _ h => hFc q h) hFc (fun r u t H locs ht hvm hw hB hz1 hk1 hS => ?_)
    have hru9 := hw.2
    have hw := hw.1
    refine ex_9_8 hB (fun x_5762 x_5763 x_5764 x_5765 x_5766 x_5767 x_5768 x_5769 f_5770 b_x_5763 b_x_5766 b_x_5769 e_x_5762_0 e_x_5762_1 e_x_5762_2 e_x_5762_3 e_x_5762_4 hB => ?_)
    obtain ⟨hP, hD⟩ := Bw.goN (ws' := [(oc7 oM iM_thrown rM_tape iM_taped iM_size x_5762 x_5763 x_5764 x_5765 x_5766 x_5767 x_5768 iM_trouble rM_letters x_5769 iM_hasCourt rM_r rM_fresh rM_told rM_read rM_st rM_undone rM_kept iM_undos iM_images rM_fresher iM_fresherSize iM_scale iM_night rM_heardRow rM_cutRow iM_breaths iM_cutMany iM_allBreaths rM_trial rM_words iM_fewestBreaths iM_orderMany iM_orderSum iM_leastOrder rM_often iM_setMany iM_someOf iM_allOf iM_allWeight iM_enoughWeight iM_worthSum iM_firstRest iM_leastDrawn), (arI rM_tape kM_tape 900 fM_tape), (arI rM_letters kM_letters 8 f_5770), (arI rM_fresh kM_fresh 287 fM_fresh), (arI rM_read kM_read 90 fM_read)]) hB rfl ht hP hD _ hMs hk1 hFc rfl
    clear hz1 hk1 hvm ht hB hMs
    rw [← hru9] at e_x_5762_4
    obtain ⟨x_5771, rfl⟩ : ∃ z, z = r := ⟨_, rfl⟩
    have hG := hG.trans (un10_eq e_x_5762_4)
    have lx_5771 := hw.2
    have kl_0 := kc_0
    have kl_99 := kc_99
    clear e_x_5752_1
    clear e_x_5752_4
    refine lv_istore_n (lv' := [(1, .int x_5771), (0, .ref oM)]) hx hb dX7_saidLine_33 rfl hl (by decide) rfl (fun ls hl => ?_)
    refine lv_aload_n hx hb dX7_saidLine_34 rfl (lv_at hl 1 rfl) ?_
    refine va_get (D := (dC, dI)) (ci := 7) (v := .int x_5769) (C := RX7) (T := TX7) (N := 48) hx hb hts inX7 hown hK hP 0 rfl rfl 13 (by decide) (hts _ wd_380) (fun _ h9 => h9) rfl dX7_saidLine_35 ?_
    refine lv_if_ne (tgt := 50) hx hb dX7_saidLine_38 (by decide) (fun c_5772 => ?_) (fun c_5772 => ?_)
    · skip
      have hG := hG.trans (if_neg c_5772)
      have gc_5772 := ti_ne c_5772 rfl kc_0
      replace gc_5772 : (-1) * x_5769.toInt + 1 ≤ 0 := om_e3003f79 gc_5772 b_x_5769.1
      exact wq_v hx hb hr 0 trivial (fun t ht hW => ⟨x_5762, x_5763, x_5764, x_5765, x_5766, x_5767, x_5768, x_5769, f_5770, fM_fresh, b_x_5763, b_x_5766, b_x_5769, (om_9348f5ae e_x_5752_0 e_x_5762_0), e_x_5762_1, (om_be042b3b b_iM_failed.2 gc_5772), (fun h9 => False.elim (om_a5fe015d gc_5772 h9.1)), r_P, hG, Bw.to hP hD hK ht hW⟩) hS dX7_saidLine_50 hlocks
    · skip
      have hG := hG.trans (if_pos c_5772)
      have gc_5772 := ti_eq c_5772 rfl kc_0
      exact ((om_5c6c3440 e_x_5748_0 e_x_5752_2 e_x_5762_2 gc_5772)).elim
set_option maxHeartbeats 4000000 in
set_option maxRecDepth 100000 in
theorem tX7_unsureLine (l : Launch) (dC : Nat → ClassId) (dI : Nat → Nat → Nat) (sz : Nat) (oM : Nat) (iM_thrown : Int32) (rM_tape : Nat) (fM_tape : Nat → Int32) (kM_tape : ClassId) (iM_taped : Int32) (iM_size : Int32) (iM_at : Int32) (iM_end : Int32) (iM_token : Int32) (iM_whole : Int32) (iM_nameSize : Int32) (iM_fault : Int32) (iM_place : Int32) (iM_trouble : Int32) (rM_letters : Nat) (fM_letters : Nat → Int32) (kM_letters : ClassId) (iM_failed : Int32) (iM_hasCourt : Int32) (rM_r : Nat) (rM_fresh : Nat) (fM_fresh : Nat → Int32) (kM_fresh : ClassId) (rM_told : Nat) (rM_read : Nat) (fM_read : Nat → Int32) (kM_read : ClassId) (rM_st : Nat) (rM_undone : Nat) (rM_kept : Nat) (iM_undos : Int32) (iM_images : Int32) (rM_fresher : Nat) (iM_fresherSize : Int32) (iM_scale : Int32) (iM_night : Int32) (rM_heardRow : Nat) (rM_cutRow : Nat) (iM_breaths : Int32) (iM_cutMany : Int32) (iM_allBreaths : Int32) (rM_trial : Nat) (rM_words : Nat) (iM_fewestBreaths : Int32) (iM_orderMany : Int32) (iM_orderSum : Int32) (iM_leastOrder : Int32) (rM_often : Nat) (iM_setMany : Int32) (iM_someOf : Int32) (iM_allOf : Int32) (iM_allWeight : Int64) (iM_enoughWeight : Int64) (iM_worthSum : Int64) (iM_firstRest : Int32) (iM_leastDrawn : Int32) (b_iM_taped : 0 ≤ iM_taped.toInt ∧ iM_taped.toInt ≤ 900) (b_iM_size : 0 ≤ iM_size.toInt ∧ iM_size.toInt ≤ 900) (b_iM_end : 0 ≤ iM_end.toInt ∧ iM_end.toInt ≤ 900) (b_iM_nameSize : 0 ≤ iM_nameSize.toInt ∧ iM_nameSize.toInt ≤ 900) (b_iM_failed : 0 ≤ iM_failed.toInt ∧ iM_failed.toInt ≤ 1) (b_iM_hasCourt : 0 ≤ iM_hasCourt.toInt ∧ iM_hasCourt.toInt ≤ 1) (b_iM_undos : 0 ≤ iM_undos.toInt ∧ iM_undos.toInt ≤ 16) (b_iM_images : 0 ≤ iM_images.toInt ∧ iM_images.toInt ≤ 3) (b_iM_scale : 1 ≤ iM_scale.toInt ∧ iM_scale.toInt ≤ 1296) (b_iM_breaths : 0 ≤ iM_breaths.toInt ∧ iM_breaths.toInt ≤ 399) (b_iM_cutMany : 0 ≤ iM_cutMany.toInt ∧ iM_cutMany.toInt ≤ 399) (r_T : ImpP (iM_token.toInt = 2) (iM_nameSize.toInt ≤ 8)) (r_P : POk fM_fresh fM_read) (hul : ImpP (iM_failed.toInt ≤ 0) ((fM_fresh 3).toInt ≤ 3)) : Met l yX7_unsureLine (Cond.code yX7_unsureLine cX7_unsureLine 4 none :: wG) ({ frames := 7, cells := 0, slots := 0, locals := 175 }) (va_Pc [.ref oM] (Pw dC dI sz [(oc7 oM iM_thrown rM_tape iM_taped iM_size iM_at iM_end iM_token iM_whole iM_nameSize iM_fault iM_place iM_trouble rM_letters iM_failed iM_hasCourt rM_r rM_fresh rM_told rM_read rM_st rM_undone rM_kept iM_undos iM_images rM_fresher iM_fresherSize iM_scale iM_night rM_heardRow rM_cutRow iM_breaths iM_cutMany iM_allBreaths rM_trial rM_words iM_fewestBreaths iM_orderMany iM_orderSum iM_leastOrder rM_often iM_setMany iM_someOf iM_allOf iM_allWeight iM_enoughWeight iM_worthSum iM_firstRest iM_leastDrawn), (arI rM_tape kM_tape 900 fM_tape), (arI rM_letters kM_letters 8 fM_letters), (arI rM_fresh kM_fresh 287 fM_fresh), (arI rM_read kM_read 90 fM_read)] [(kM_tape, .int), (kM_letters, .int), (kM_fresh, .int), (kM_read, .int)])) (va_Qv (fun (_ : Nat) => True) (fun (_ : Nat) (t : State) => ∃ (niM_at : Int32) (niM_end : Int32) (niM_token : Int32) (niM_whole : Int32) (niM_nameSize : Int32) (niM_fault : Int32) (niM_place : Int32) (niM_failed : Int32) (nfM_letters : Nat → Int32) (nfM_fresh : Nat → Int32), (0 ≤ niM_end.toInt ∧ niM_end.toInt ≤ 900) ∧ (0 ≤ niM_nameSize.toInt ∧ niM_nameSize.toInt ≤ 900) ∧ (0 ≤ niM_failed.toInt ∧ niM_failed.toInt ≤ 1) ∧ (iM_end.toInt ≤ niM_end.toInt) ∧ (ImpP (niM_token.toInt = 2) (niM_nameSize.toInt ≤ 8)) ∧ (iM_failed.toInt ≤ niM_failed.toInt) ∧ (ImpP (niM_failed.toInt ≤ 0 ∧ niM_token.toInt = 59 ) (iM_end.toInt + 1 ≤ niM_end.toInt)) ∧ (POk nfM_fresh fM_read) ∧ (PX7_unsureLine fM_tape iM_size iM_at iM_end iM_token iM_whole iM_nameSize iM_fault iM_place fM_letters iM_failed fM_fresh = (niM_at, niM_end, niM_token, niM_whole, niM_nameSize, niM_fault, niM_place, niM_failed, nfM_letters, nfM_fresh)) ∧ Bw dC dI (va_A [(oc7 oM iM_thrown rM_tape iM_taped iM_size iM_at iM_end iM_token iM_whole iM_nameSize iM_fault iM_place iM_trouble rM_letters iM_failed iM_hasCourt rM_r rM_fresh rM_told rM_read rM_st rM_undone rM_kept iM_undos iM_images rM_fresher iM_fresherSize iM_scale iM_night rM_heardRow rM_cutRow iM_breaths iM_cutMany iM_allBreaths rM_trial rM_words iM_fewestBreaths iM_orderMany iM_orderSum iM_leastOrder rM_often iM_setMany iM_someOf iM_allOf iM_allWeight iM_enoughWeight iM_worthSum iM_firstRest iM_leastDrawn), (arI rM_tape kM_tape 900 fM_tape), (arI rM_letters kM_letters 8 fM_letters), (arI rM_fresh kM_fresh 287 fM_fresh), (arI rM_read kM_read 90 fM_read)] sz) [(oc7 oM iM_thrown rM_tape iM_taped iM_size niM_at niM_end niM_token niM_whole niM_nameSize niM_fault niM_place iM_trouble rM_letters niM_failed iM_hasCourt rM_r rM_fresh rM_told rM_read rM_st rM_undone rM_kept iM_undos iM_images rM_fresher iM_fresherSize iM_scale iM_night rM_heardRow rM_cutRow iM_breaths iM_cutMany iM_allBreaths rM_trial rM_words iM_fewestBreaths iM_orderMany iM_orderSum iM_leastOrder rM_often iM_setMany iM_someOf iM_allOf iM_allWeight iM_enoughWeight iM_worthSum iM_firstRest iM_leastDrawn), (arI rM_tape kM_tape 900 fM_tape), (arI rM_letters kM_letters 8 nfM_letters), (arI rM_fresh kM_fresh 287 nfM_fresh), (arI rM_read kM_read 90 fM_read)] [(kM_tape, .int), (kM_letters, .int), (kM_fresh, .int), (kM_read, .int)] t) (va_A [(oc7 oM iM_thrown rM_tape iM_taped iM_size iM_at iM_end iM_token iM_whole iM_nameSize iM_fault iM_place iM_trouble rM_letters iM_failed iM_hasCourt rM_r rM_fresh rM_told rM_read rM_st rM_undone rM_kept iM_undos iM_images rM_fresher iM_fresherSize iM_scale iM_night rM_heardRow rM_cutRow iM_breaths iM_cutMany iM_allBreaths rM_trial rM_words iM_fewestBreaths iM_orderMany iM_orderSum iM_leastOrder rM_often iM_setMany iM_someOf iM_allOf iM_allWeight iM_enoughWeight iM_worthSum iM_firstRest iM_leastDrawn), (arI rM_tape kM_tape 900 fM_tape), (arI rM_letters kM_letters 8 fM_letters), (arI rM_fresh kM_fresh 287 fM_fresh), (arI rM_read kM_read 90 fM_read)] sz)) 0 0 (va_A [(oc7 oM iM_thrown rM_tape iM_taped iM_size iM_at iM_end iM_token iM_whole iM_nameSize iM_fault iM_place iM_trouble rM_letters iM_failed iM_hasCourt rM_r rM_fresh rM_told rM_read rM_st rM_undone rM_kept iM_undos iM_images rM_fresher iM_fresherSize iM_scale iM_night rM_heardRow rM_cutRow iM_breaths iM_cutMany iM_allBreaths rM_trial rM_words iM_fewestBreaths iM_orderMany iM_orderSum iM_leastOrder rM_often iM_setMany iM_someOf iM_allOf iM_allWeight iM_enoughWeight iM_worthSum iM_firstRest iM_leastDrawn), (arI rM_tape kM_tape 900 fM_tape), (arI rM_letters kM_letters 8 fM_letters), (arI rM_fresh kM_fresh 287 fM_fresh), (arI rM_read kM_read 90 fM_read)] sz) := by
  refine Met.ofW (cc := cX7_unsureLine) (maxL := 4) (ret := none) pnX7 rfl ?_
  intro p e s m args below meth c s₁ B hml hv
  obtain ⟨rfl, hsz, hP, hK, hD0, hE⟩ := hv
  have hx := B.exec
  have hb := B.bytes
  have hr := B.returns
  have hts : ∀ w ∈ wG, w.before ([.ref oM] : List Value).toArray s = true := fun w h => atoms_spec (ws := Cond.code yX7_unsureLine cX7_unsureLine 4 none :: wG) B.pre w (List.mem_cons_of_mem _ h)
  have hown : s.vm.findClass RX7 = some m.cls := own_of B.named rfl
  have hlocks := B.notSynchronized
  subst hsz
  have hD := hD0.self (sz := s.heap.size)
  generalize hAe : va_A [(oc7 oM iM_thrown rM_tape iM_taped iM_size iM_at iM_end iM_token iM_whole iM_nameSize iM_fault iM_place iM_trouble rM_letters iM_failed iM_hasCourt rM_r rM_fresh rM_told rM_read rM_st rM_undone rM_kept iM_undos iM_images rM_fresher iM_fresherSize iM_scale iM_night rM_heardRow rM_cutRow iM_breaths iM_cutMany iM_allBreaths rM_trial rM_words iM_fewestBreaths iM_orderMany iM_orderSum iM_leastOrder rM_often iM_setMany iM_someOf iM_allOf iM_allWeight iM_enoughWeight iM_worthSum iM_firstRest iM_leastDrawn), (arI rM_tape kM_tape 900 fM_tape), (arI rM_letters kM_letters 8 fM_letters), (arI rM_fresh kM_fresh 287 fM_fresh), (arI rM_read kM_read 90 fM_read)] s.heap.size = A at hD hE ⊢
  have hA : ∀ q : Nat, s.heap.size ≤ q → A q := fun q h => by rw [← hAe]; exact Or.inr h
  have hS : va_S A s.heap s.heap [] := va_S.rf
  have hl := lv_entry ([.ref oM]) (n := 4) (Nat.le_of_ble_eq_true rfl)
  rw [lg_entry_eq]
  generalize (lg_sl ([.ref oM]) ++ List.replicate (4 - (lg_sl ([.ref oM])).length) Slot.unset).toArray = ls at hl ⊢
  have hl : lv_has ls 4 [(0, .ref oM)] := hl
  have hG := PX7_unsureLine_eq fM_tape iM_size iM_at iM_end iM_token iM_whole iM_nameSize iM_fault iM_place fM_letters iM_failed fM_fresh
  have pl_fM_fresh := r_P.lins
  refine lv_aload_n hx hb dX7_unsureLine_0 rfl (lv_at hl 0 rfl) ?_
  refine va_get (D := (dC, dI)) (ci := 7) (v := .int iM_failed) (C := RX7) (T := TX7) (N := 48) hx hb hts inX7 hown hK hP 0 rfl rfl 13 (by decide) (hts _ wd_380) (fun _ h9 => h9) rfl dX7_unsureLine_1 ?_
  refine lv_if_eq (tgt := 8) hx hb dX7_unsureLine_4 (by decide) (fun c_5884 => ?_) (fun c_5884 => ?_)
  · skip
    have hG := hG.trans (if_pos c_5884)
    have gc_5884 := ti_eq c_5884 rfl kc_0
    have h_5885 : (fM_fresh 3).toInt ≤ 3 := hul (om_02e9bb08 gc_5884)
    clear hul
    refine lv_bipush (v := 117) hx hb dX7_unsureLine_8 (by decide) ?_
    refine lv_iconst (v := 2) hx hb dX7_unsureLine_10 (by decide) ?_
    refine lv_aload_n hx hb dX7_unsureLine_11 rfl (lv_at hl 0 rfl) ?_
    refine va_get (D := (dC, dI)) (ci := 7) (v := .ref rM_fresh) (C := RX7) (T := TX7) (N := 48) hx hb hts inX7 hown hK hP 0 rfl rfl 16 (by decide) (hts _ wd_156) (fun _ h9 => h9) rfl dX7_unsureLine_12 ?_
    refine lv_iconst (v := 3) hx hb dX7_unsureLine_15 (by decide) ?_
    refine va_iald hx hb hK hP 3 2 rfl rfl (by unfold vp_in; decide) dX7_unsureLine_16 ?_
    refine lv_topi (fun x_5886 ex_5886 => ?_)
    have hG := hG.trans (lt_eq ex_5886)
    have cx_5886 : (fM_fresh 3).toInt = x_5886.toInt := congrArg Int32.toInt (show fM_fresh 3 = x_5886 from ex_5886.symm)
    refine lv_imul hx hb dX7_unsureLine_17 ?_
    refine lv_topi (fun x_5887 ex_5887 => ?_)
    have hG := hG.trans (lt_eq ex_5887)
    have vx_5887 : x_5887.toInt = 2 * x_5886.toInt := ti_mul ex_5887 kc_2 rfl (om_ced40591 pl_fM_fresh.2.2.2.1.1 cx_5886) (om_88ac8d02 pl_fM_fresh.2.2.2.1.2 cx_5886)
    refine lv_iadd hx hb dX7_unsureLine_18 ?_
    refine lv_topi (fun x_5888 ex_5888 => ?_)
    have hG := hG.trans (lt_eq ex_5888)
    have vx_5888 : x_5888.toInt = 2 * x_5886.toInt + 117 := om_67044d60 (ti_add ex_5888 kc_117 vx_5887 (om_530ef2ed pl_fM_fresh.2.2.2.1.1 cx_5886) (om_49eb7f00 pl_fM_fresh.2.2.2.1.2 cx_5886))
    refine lv_istore_n (lv' := [(1, .int x_5888), (0, .ref oM)]) hx hb dX7_unsureLine_19 rfl hl (by decide) rfl (fun ls hl => ?_)
    refine lv_aload_n hx hb dX7_unsureLine_20 rfl (lv_at hl 1 rfl) ?_
    have hMs := ml_of hD [true, false, true, true, true] (wc := [(oc7 oM iM_thrown rM_tape iM_taped iM_size iM_at iM_end iM_token iM_whole iM_nameSize iM_fault iM_place iM_trouble rM_letters iM_failed iM_hasCourt rM_r rM_fresh rM_told rM_read rM_st rM_undone rM_kept iM_undos iM_images rM_fresher iM_fresherSize iM_scale iM_night rM_heardRow rM_cutRow iM_breaths iM_cutMany iM_allBreaths rM_trial rM_words iM_fewestBreaths iM_orderMany iM_orderSum iM_leastOrder rM_often iM_setMany iM_someOf iM_allOf iM_allWeight iM_enoughWeight iM_worthSum iM_firstRest iM_leastDrawn), (arI rM_letters kM_letters 8 fM_letters), (arI rM_fresh kM_fresh 287 fM_fresh), (arI rM_read kM_read 90 fM_read)]) rfl
    have hFc := va_freeM hD hS hA _ hMs
    refine va_calli (va_runV (As := []) (rest := []) ⟨hx, hb, hml, hown, hts⟩ (tX7_nodeHere l dC dI _ oM iM_thrown rM_tape iM_taped iM_size iM_at iM_end iM_token iM_whole iM_nameSize iM_fault iM_place iM_trouble rM_letters fM_letters kM_letters iM_failed iM_hasCourt rM_r rM_fresh fM_fresh kM_fresh rM_told rM_read fM_read kM_read rM_st rM_undone rM_kept iM_undos iM_images rM_fresher iM_fresherSize iM_scale iM_night rM_heardRow rM_cutRow iM_breaths iM_cutMany iM_allBreaths rM_trial rM_words iM_fewestBreaths iM_orderMany iM_orderSum iM_leastOrder rM_often iM_setMany iM_someOf iM_allOf iM_allWeight iM_enoughWeight iM_worthSum iM_firstRest iM_leastDrawn b_iM_taped b_iM_size b_iM_end b_iM_nameSize b_iM_failed b_iM_hasCourt b_iM_undos b_iM_images b_iM_scale b_iM_breaths b_iM_cutMany r_T r_P) (cwV 0 hts (wd_V wd_486 wd_487 wd_488 wd_5 (wd_c wd_489)) rfl rfl rfl dv_yX7_nodeHere_0 ⟨Nat.le_of_ble_eq_true rfl, Nat.le_of_ble_eq_true rfl⟩) ⟨Pw.fb, recvX7 hK hP (q0 := 0) rfl, fun U hU hW => Pw.to (hP.ms _ hMs) (hD.ms _ hMs) (hK.ms [false, true, true, true] rfl) hE hS hFc hU hW⟩ rfl rfl hl.1 rfl (lv_room (Nat.le_of_ble_eq_true rfl)) dX7_unsureLine_21 ⟨Nat.le_of_ble_eq_true rfl, Nat.le_of_ble_eq_true rfl⟩) hS (fun q _ h => hFc q h) hFc (fun r u t H locs ht hvm hw hB hz1 hk1 hS => ?_)
    have hru9 := hw.2
    have hw := hw.1
    refine ex_3_4 hB (fun x_5889 x_5890 x_5891 b_x_5891 e_x_5889_0 e_x_5889_1 e_x_5889_2 hB => ?_)
    obtain ⟨hP, hD⟩ := Bw.goN (ws' := [(oc7 oM iM_thrown rM_tape iM_taped iM_size iM_at iM_end iM_token iM_whole iM_nameSize x_5889 x_5890 iM_trouble rM_letters x_5891 iM_hasCourt rM_r rM_fresh rM_told rM_read rM_st rM_undone rM_kept iM_undos iM_images rM_fresher iM_fresherSize iM_scale iM_night rM_heardRow rM_cutRow iM_breaths iM_cutMany iM_allBreaths rM_trial rM_words iM_fewestBreaths iM_orderMany iM_orderSum iM_leastOrder rM_often iM_setMany iM_someOf iM_allOf iM_allWeight iM_enoughWeight iM_worthSum iM_firstRest iM_leastDrawn), (arI rM_tape kM_tape 900 fM_tape), (arI rM_letters kM_letters 8 fM_letters), (arI rM_fresh kM_fresh 287 fM_fresh), (arI rM_read kM_read 90 fM_read)]) hB rfl ht hP hD _ hMs hk1 hFc rfl
    clear hz1 hk1 hvm ht hB hMs
    rw [← hru9] at e_x_5889_2
    obtain ⟨x_5892, rfl⟩ : ∃ z, z = r := ⟨_, rfl⟩
    have hG := hG.trans (un4_eq e_x_5889_2)
    have lx_5892 := hw.2
    have ux_5892 := hw.2
    refine lv_istore_n (lv' := [(2, .int x_5892), (1, .int x_5888), (0, .ref oM)]) hx hb dX7_unsureLine_24 rfl hl (by decide) rfl (fun ls hl => ?_)
    refine lv_aload_n hx hb dX7_unsureLine_25 rfl (lv_at hl 2 rfl) ?_
    refine va_get (D := (dC, dI)) (ci := 7) (v := .int x_5891) (C := RX7) (T := TX7) (N := 48) hx hb hts inX7 hown hK hP 0 rfl rfl 13 (by decide) (hts _ wd_380) (fun _ h9 => h9) rfl dX7_unsureLine_26 ?_
    refine lv_if_ne (tgt := 53) hx hb dX7_unsureLine_29 (by decide) (fun c_5893 => ?_) (fun c_5893 => ?_)
    · skip
      have hG := hG.trans (if_neg c_5893)
      have gc_5893 := ti_ne c_5893 rfl kc_0
      replace gc_5893 : (-1) * x_5891.toInt + 1 ≤ 0 := om_e3003f79 gc_5893 b_x_5891.1
      clear e_x_5889_1
      refine lv_iconst (v := 0) hx hb dX7_unsureLine_53 (by decide) ?_
      refine lv_istore_n (lv' := [(3, .int 0), (2, .int x_5892), (1, .int x_5888), (0, .ref oM)]) hx hb dX7_unsureLine_54 rfl hl (by decide) rfl (fun ls hl => ?_)
      have hl := lv_sub hl (l' := [(3, .int 0), (2, .int x_5892), (1, .int x_5888), (0, .ref oM)]) [0, 1, 2, 3] rfl
      have key_n_5898 : ∀ (n_5898 : Nat) (z_5894 : Int32) (z_5895 : Int32) (z_5896 : Int32) (z_5897 : Int32) (H : Heap) (locs : List Loc) (ls : Array Slot), (0 ≤ z_5895.toInt ∧ z_5895.toInt ≤ 1) → (0 ≤ z_5894.toInt ∧ z_5894.toInt ≤ 4) → (x_5891.toInt ≤ z_5895.toInt) → (4 - z_5894.toInt).toNat < n_5898 → (PX7_unsureLine fM_tape iM_size iM_at iM_end iM_token iM_whole iM_nameSize iM_fault iM_place fM_letters iM_failed fM_fresh = HX7_unsureLine_1 fM_tape iM_size iM_at iM_end iM_token iM_whole iM_nameSize fM_letters fM_fresh n_5898 z_5894 z_5895 z_5896 z_5897) → va_P (dC, dI) vwCl [(oc7 oM iM_thrown rM_tape iM_taped iM_size iM_at iM_end iM_token iM_whole iM_nameSize z_5896 z_5897 iM_trouble rM_letters z_5895 iM_hasCourt rM_r rM_fresh rM_told rM_read rM_st rM_undone rM_kept iM_undos iM_images rM_fresher iM_fresherSize iM_scale iM_night rM_heardRow rM_cutRow iM_breaths iM_cutMany iM_allBreaths rM_trial rM_words iM_fewestBreaths iM_orderMany iM_orderSum iM_leastOrder rM_often iM_setMany iM_someOf iM_allOf iM_allWeight iM_enoughWeight iM_worthSum iM_firstRest iM_leastDrawn), (arI rM_tape kM_tape 900 fM_tape), (arI rM_letters kM_letters 8 fM_letters), (arI rM_fresh kM_fresh 287 fM_fresh), (arI rM_read kM_read 90 fM_read)] H → va_D A [(oc7 oM iM_thrown rM_tape iM_taped iM_size iM_at iM_end iM_token iM_whole iM_nameSize z_5896 z_5897 iM_trouble rM_letters z_5895 iM_hasCourt rM_r rM_fresh rM_told rM_read rM_st rM_undone rM_kept iM_undos iM_images rM_fresher iM_fresherSize iM_scale iM_night rM_heardRow rM_cutRow iM_breaths iM_cutMany iM_allBreaths rM_trial rM_words iM_fewestBreaths iM_orderMany iM_orderSum iM_leastOrder rM_often iM_setMany iM_someOf iM_allOf iM_allWeight iM_enoughWeight iM_worthSum iM_firstRest iM_leastDrawn), (arI rM_tape kM_tape 900 fM_tape), (arI rM_letters kM_letters 8 fM_letters), (arI rM_fresh kM_fresh 287 fM_fresh), (arI rM_read kM_read 90 fM_read)] → va_S A s.heap H locs → lv_has ls 4 [(3, .int z_5894), (2, .int x_5892), (1, .int x_5888), (0, .ref oM)] → W p l e (headSpec (Cond.code yX7_unsureLine cX7_unsureLine 4 none :: wG) ({ frames := 7, cells := 0, slots := 0, locals := 175 })).room s m ([.ref oM] : List Value).toArray below meth c H locs 0 0 (MQ below (va_Qv (fun (_ : Nat) => True) (fun (_ : Nat) (t : State) => ∃ (niM_at : Int32) (niM_end : Int32) (niM_token : Int32) (niM_whole : Int32) (niM_nameSize : Int32) (niM_fault : Int32) (niM_place : Int32) (niM_failed : Int32) (nfM_letters : Nat → Int32) (nfM_fresh : Nat → Int32), (0 ≤ niM_end.toInt ∧ niM_end.toInt ≤ 900) ∧ (0 ≤ niM_nameSize.toInt ∧ niM_nameSize.toInt ≤ 900) ∧ (0 ≤ niM_failed.toInt ∧ niM_failed.toInt ≤ 1) ∧ (iM_end.toInt ≤ niM_end.toInt) ∧ (ImpP (niM_token.toInt = 2) (niM_nameSize.toInt ≤ 8)) ∧ (iM_failed.toInt ≤ niM_failed.toInt) ∧ (ImpP (niM_failed.toInt ≤ 0 ∧ niM_token.toInt = 59 ) (iM_end.toInt + 1 ≤ niM_end.toInt)) ∧ (POk nfM_fresh fM_read) ∧ (PX7_unsureLine fM_tape iM_size iM_at iM_end iM_token iM_whole iM_nameSize iM_fault iM_place fM_letters iM_failed fM_fresh = (niM_at, niM_end, niM_token, niM_whole, niM_nameSize, niM_fault, niM_place, niM_failed, nfM_letters, nfM_fresh)) ∧ Bw dC dI A [(oc7 oM iM_thrown rM_tape iM_taped iM_size niM_at niM_end niM_token niM_whole niM_nameSize niM_fault niM_place iM_trouble rM_letters niM_failed iM_hasCourt rM_r rM_fresh rM_told rM_read rM_st rM_undone rM_kept iM_undos iM_images rM_fresher iM_fresherSize iM_scale iM_night rM_heardRow rM_cutRow iM_breaths iM_cutMany iM_allBreaths rM_trial rM_words iM_fewestBreaths iM_orderMany iM_orderSum iM_leastOrder rM_often iM_setMany iM_someOf iM_allOf iM_allWeight iM_enoughWeight iM_worthSum iM_firstRest iM_leastDrawn), (arI rM_tape kM_tape 900 fM_tape), (arI rM_letters kM_letters 8 nfM_letters), (arI rM_fresh kM_fresh 287 nfM_fresh), (arI rM_read kM_read 90 fM_read)] [(kM_tape, .int), (kM_letters, .int), (kM_fresh, .int), (kM_read, .int)] t) A) ([.ref oM] : List Value).toArray s 0 0 A) (F0 m 55 ls []) := by
        intro n_5898
        induction n_5898 with
        | zero => intro z_5894 z_5895 z_5896 z_5897 H locs ls b_z_5895 hi0_n_5898 hi1_n_5898 hm; exact absurd hm (Nat.not_lt_zero _)
        | succ n_5898 ih_n_5898 =>
          intro z_5894 z_5895 z_5896 z_5897 H locs ls b_z_5895 hi0_n_5898 hi1_n_5898 hm_n_5898 hG hP hD hS hl
          have hG := hG.trans (HX7_unsureLine_1_eq _ _ _ _ _ _ _ _ _ _ _ _ _ _)
          refine lv_iload_n hx hb dX7_unsureLine_55 rfl (lv_at hl 0 rfl) ?_
          refine lv_aload_n hx hb dX7_unsureLine_56 rfl (lv_at hl 3 rfl) ?_
          refine va_get (D := (dC, dI)) (ci := 7) (v := .ref rM_fresh) (C := RX7) (T := TX7) (N := 48) hx hb hts inX7 hown hK hP 0 rfl rfl 16 (by decide) (hts _ wd_156) (fun _ h9 => h9) rfl dX7_unsureLine_57 ?_
          refine lv_iconst (v := 3) hx hb dX7_unsureLine_60 (by decide) ?_
          refine va_iald hx hb hK hP 3 2 rfl rfl (by unfold vp_in; decide) dX7_unsureLine_61 ?_
          refine lv_topi (fun x_5899 ex_5899 => ?_)
          have hG := hG.trans (lt_eq ex_5899)
          have cx_5899 : (fM_fresh 3).toInt = x_5899.toInt := congrArg Int32.toInt (show fM_fresh 3 = x_5899 from ex_5899.symm)
          refine lv_icmp_ge (tgt := 102) hx hb dX7_unsureLine_62 (by decide) (fun c_5900 => ?_) (fun c_5900 => ?_)
          · skip
            have hG := hG.trans (if_pos c_5900)
            have gc_5900 := ti_le c_5900 rfl rfl
            refine lv_aload_n hx hb dX7_unsureLine_102 rfl (lv_at hl 3 rfl) ?_
            have hMs := ml_of hD [true, true, true, false, false] (wc := [(oc7 oM iM_thrown rM_tape iM_taped iM_size iM_at iM_end iM_token iM_whole iM_nameSize z_5896 z_5897 iM_trouble rM_letters z_5895 iM_hasCourt rM_r rM_fresh rM_told rM_read rM_st rM_undone rM_kept iM_undos iM_images rM_fresher iM_fresherSize iM_scale iM_night rM_heardRow rM_cutRow iM_breaths iM_cutMany iM_allBreaths rM_trial rM_words iM_fewestBreaths iM_orderMany iM_orderSum iM_leastOrder rM_often iM_setMany iM_someOf iM_allOf iM_allWeight iM_enoughWeight iM_worthSum iM_firstRest iM_leastDrawn), (arI rM_tape kM_tape 900 fM_tape), (arI rM_letters kM_letters 8 fM_letters)]) rfl
            have hFc := va_freeM hD hS hA _ hMs
            refine va_callv (va_runV (As := []) (rest := []) ⟨hx, hb, hml, hown, hts⟩ (tX7_pass l dC dI _ oM iM_thrown rM_tape fM_tape kM_tape iM_taped iM_size iM_at iM_end iM_token iM_whole iM_nameSize z_5896 z_5897 iM_trouble rM_letters fM_letters kM_letters z_5895 iM_hasCourt rM_r rM_fresh rM_told rM_read rM_st rM_undone rM_kept iM_undos iM_images rM_fresher iM_fresherSize iM_scale iM_night rM_heardRow rM_cutRow iM_breaths iM_cutMany iM_allBreaths rM_trial rM_words iM_fewestBreaths iM_orderMany iM_orderSum iM_leastOrder rM_often iM_setMany iM_someOf iM_allOf iM_allWeight iM_enoughWeight iM_worthSum iM_firstRest iM_leastDrawn b_iM_taped b_iM_size b_iM_end b_iM_nameSize b_z_5895 b_iM_hasCourt b_iM_undos b_iM_images b_iM_scale b_iM_breaths b_iM_cutMany r_T) (cwV 0 hts (wd_V wd_454 wd_455 wd_456 wd_5 (wd_c wd_457)) rfl rfl rfl dv_yX7_pass_0 ⟨Nat.le_of_ble_eq_true rfl, Nat.le_of_ble_eq_true rfl⟩) ⟨Pw.fb, recvX7 hK hP (q0 := 0) rfl, fun U hU hW => Pw.to (hP.ms _ hMs) (hD.ms _ hMs) (hK.ms [true, true, false, false] rfl) hE hS hFc hU hW⟩ rfl rfl hl.1 rfl (lv_room (Nat.le_of_ble_eq_true rfl)) dX7_unsureLine_103 ⟨Nat.le_of_ble_eq_true rfl, Nat.le_of_ble_eq_true rfl⟩) hS (fun q _ h => hFc q h) hFc (fun u t H locs ht hvm hw hB hz1 hk1 hS => ?_)
            refine ex_6_6 hB (fun x_5901 x_5902 x_5903 x_5904 x_5905 f_5906 b_x_5902 b_x_5905 e_x_5901_0 e_x_5901_1 e_x_5901_2 e_x_5901_3 hB => ?_)
            obtain ⟨hP, hD⟩ := Bw.goN (ws' := [(oc7 oM iM_thrown rM_tape iM_taped iM_size x_5901 x_5902 x_5903 x_5904 x_5905 z_5896 z_5897 iM_trouble rM_letters z_5895 iM_hasCourt rM_r rM_fresh rM_told rM_read rM_st rM_undone rM_kept iM_undos iM_images rM_fresher iM_fresherSize iM_scale iM_night rM_heardRow rM_cutRow iM_breaths iM_cutMany iM_allBreaths rM_trial rM_words iM_fewestBreaths iM_orderMany iM_orderSum iM_leastOrder rM_often iM_setMany iM_someOf iM_allOf iM_allWeight iM_enoughWeight iM_worthSum iM_firstRest iM_leastDrawn), (arI rM_tape kM_tape 900 fM_tape), (arI rM_letters kM_letters 8 f_5906), (arI rM_fresh kM_fresh 287 fM_fresh), (arI rM_read kM_read 90 fM_read)]) hB rfl ht hP hD _ hMs hk1 hFc rfl
            clear hz1 hk1 hvm ht hB hMs
            have hG := hG.trans (un6_eq e_x_5901_3)
            clear r_T
            refine lv_aload_n hx hb dX7_unsureLine_106 rfl (lv_at hl 3 rfl) ?_
            refine lv_iconst (v := 0) hx hb dX7_unsureLine_107 (by decide) ?_
            refine lv_bipush (v := 99) hx hb dX7_unsureLine_108 (by decide) ?_
            have hMs := ml_of hD [true, true, true, false, false] (wc := [(oc7 oM iM_thrown rM_tape iM_taped iM_size x_5901 x_5902 x_5903 x_5904 x_5905 z_5896 z_5897 iM_trouble rM_letters z_5895 iM_hasCourt rM_r rM_fresh rM_told rM_read rM_st rM_undone rM_kept iM_undos iM_images rM_fresher iM_fresherSize iM_scale iM_night rM_heardRow rM_cutRow iM_breaths iM_cutMany iM_allBreaths rM_trial rM_words iM_fewestBreaths iM_orderMany iM_orderSum iM_leastOrder rM_often iM_setMany iM_someOf iM_allOf iM_allWeight iM_enoughWeight iM_worthSum iM_firstRest iM_leastDrawn), (arI rM_tape kM_tape 900 fM_tape), (arI rM_letters kM_letters 8 f_5906)]) rfl
            have hFc := va_freeM hD hS hA _ hMs
            refine va_calli (va_runV (As := [.int 0, .int 99]) (rest := []) ⟨hx, hb, hml, hown, hts⟩ (tX7_number l dC dI _ oM iM_thrown rM_tape fM_tape kM_tape iM_taped iM_size x_5901 x_5902 x_5903 x_5904 x_5905 z_5896 z_5897 iM_trouble rM_letters f_5906 kM_letters z_5895 iM_hasCourt rM_r rM_fresh rM_told rM_read rM_st rM_undone rM_kept iM_undos iM_images rM_fresher iM_fresherSize iM_scale iM_night rM_heardRow rM_cutRow iM_breaths iM_cutMany iM_allBreaths rM_trial rM_words iM_fewestBreaths iM_orderMany iM_orderSum iM_leastOrder rM_often iM_setMany iM_someOf iM_allOf iM_allWeight iM_enoughWeight iM_worthSum iM_firstRest iM_leastDrawn 0 99 b_iM_taped b_iM_size b_x_5902 b_x_5905 b_z_5895 b_iM_hasCourt b_iM_undos b_iM_images b_iM_scale b_iM_breaths b_iM_cutMany e_x_5901_1 (om_b0b40937 kc_0 kc_99)) (cwV 2 hts (wd_V wd_446 wd_447 wd_448 wd_5 (wd_c wd_449)) rfl rfl rfl dv_yX7_number_2 ⟨Nat.le_of_ble_eq_true rfl, Nat.le_of_ble_eq_true rfl⟩) ⟨Pw.fb, recvX7 hK hP (q0 := 0) rfl, fun U hU hW => Pw.to (hP.ms _ hMs) (hD.ms _ hMs) (hK.ms [true, true, false, false] rfl) hE hS hFc hU hW⟩ rfl rfl hl.1 rfl (lv_room (Nat.le_of_ble_eq_true rfl)) dX7_unsureLine_110 ⟨Nat.le_of_ble_eq_true rfl, Nat.le_of_ble_eq_true rfl⟩) hS (fun q _ h => hFc q h) hFc (fun r u t H locs ht hvm hw hB hz1 hk1 hS => ?_)
            have hru9 := hw.2
            have hw := hw.1
            refine ex_9_8 hB (fun x_5907 x_5908 x_5909 x_5910 x_5911 x_5912 x_5913 x_5914 f_5915 b_x_5908 b_x_5911 b_x_5914 e_x_5907_0 e_x_5907_1 e_x_5907_2 e_x_5907_3 e_x_5907_4 hB => ?_)
            obtain ⟨hP, hD⟩ := Bw.goN (ws' := [(oc7 oM iM_thrown rM_tape iM_taped iM_size x_5907 x_5908 x_5909 x_5910 x_5911 x_5912 x_5913 iM_trouble rM_letters x_5914 iM_hasCourt rM_r rM_fresh rM_told rM_read rM_st rM_undone rM_kept iM_undos iM_images rM_fresher iM_fresherSize iM_scale iM_night rM_heardRow rM_cutRow iM_breaths iM_cutMany iM_allBreaths rM_trial rM_words iM_fewestBreaths iM_orderMany iM_orderSum iM_leastOrder rM_often iM_setMany iM_someOf iM_allOf iM_allWeight iM_enoughWeight iM_worthSum iM_firstRest iM_leastDrawn), (arI rM_tape kM_tape 900 fM_tape), (arI rM_letters kM_letters 8 f_5915), (arI rM_fresh kM_fresh 287 fM_fresh), (arI rM_read kM_read 90 fM_read)]) hB rfl ht hP hD _ hMs hk1 hFc rfl
            clear hz1 hk1 hvm ht hB hMs
            rw [← hru9] at e_x_5907_4
            obtain ⟨x_5916, rfl⟩ : ∃ z, z = r := ⟨_, rfl⟩
            have hG := hG.trans (un10_eq e_x_5907_4)
            have lx_5916 := hw.2
            have kl_0 := kc_0
            have kl_99 := kc_99
            clear e_x_5901_1
            clear e_x_5901_2
            refine lv_istore_n (lv' := [(3, .int x_5916), (2, .int x_5892), (1, .int x_5888), (0, .ref oM)]) hx hb dX7_unsureLine_113 rfl hl (by decide) rfl (fun ls hl => ?_)
            refine lv_aload_n hx hb dX7_unsureLine_114 rfl (lv_at hl 3 rfl) ?_
            refine va_get (D := (dC, dI)) (ci := 7) (v := .int x_5914) (C := RX7) (T := TX7) (N := 48) hx hb hts inX7 hown hK hP 0 rfl rfl 13 (by decide) (hts _ wd_380) (fun _ h9 => h9) rfl dX7_unsureLine_115 ?_
            refine lv_if_eq (tgt := 122) hx hb dX7_unsureLine_118 (by decide) (fun c_5917 => ?_) (fun c_5917 => ?_)
            · skip
              have hG := hG.trans (if_pos c_5917)
              have gc_5917 := ti_eq c_5917 rfl kc_0
              exact ((om_2e318dd7 gc_5893 hi1_n_5898 e_x_5907_2 gc_5917)).elim
            · skip
              have hG := hG.trans (if_neg c_5917)
              have gc_5917 := ti_ne c_5917 rfl kc_0
              replace gc_5917 : (-1) * x_5914.toInt + 1 ≤ 0 := om_e3003f79 gc_5917 b_x_5914.1
              exact wq_v hx hb hr 0 trivial (fun t ht hW => ⟨x_5907, x_5908, x_5909, x_5910, x_5911, x_5912, x_5913, x_5914, f_5915, fM_fresh, b_x_5908, b_x_5911, b_x_5914, (om_9348f5ae e_x_5901_0 e_x_5907_0), e_x_5907_1, (om_1fc3dec6 gc_5884 b_x_5914.1), (fun h9 => False.elim (om_a5fe015d gc_5917 h9.1)), r_P, hG, Bw.to hP hD hK ht hW⟩) hS dX7_unsureLine_121 hlocks
          · skip
            have hG := hG.trans (if_neg c_5900)
            have gc_5900 := ti_nle c_5900 rfl rfl
            refine lv_aload_n hx hb dX7_unsureLine_65 rfl (lv_at hl 3 rfl) ?_
            refine va_get (D := (dC, dI)) (ci := 7) (v := .int z_5895) (C := RX7) (T := TX7) (N := 48) hx hb hts inX7 hown hK hP 0 rfl rfl 13 (by decide) (hts _ wd_380) (fun _ h9 => h9) rfl dX7_unsureLine_66 ?_
            refine lv_if_ne (tgt := 96) hx hb dX7_unsureLine_69 (by decide) (fun c_5918 => ?_) (fun c_5918 => ?_)
            · skip
              have hG := hG.trans (if_neg c_5918)
              have gc_5918 := ti_ne c_5918 rfl kc_0
              replace gc_5918 : (-1) * z_5895.toInt + 1 ≤ 0 := om_e3003f79 gc_5918 b_z_5895.1
              obtain ⟨x_5919, ex_5919⟩ : ∃ z : Int32, z = z_5894 + Int32.ofInt 1 := ⟨_, rfl⟩
              have hG := hG.trans (lt_eq ex_5919)
              have vx_5919 : x_5919.toInt = z_5894.toInt + 1 := ti_add (y := 1) ex_5919 rfl kc_1 (om_4e4fce7e hi0_n_5898.1) (om_bae2951a hi0_n_5898.2)
              refine lv_iinc (v := x_5919) (lv' := [(3, .int x_5919), (2, .int x_5892), (1, .int x_5888), (0, .ref oM)]) hx hb dX7_unsureLine_96 hl (k := 0) rfl ex_5919.symm (by decide) rfl (fun ls hl => ?_)
              refine lv_goto (tgt := 55) hx hb dX7_unsureLine_99 (by decide) ?_
              exact ih_n_5898 x_5919 z_5895 z_5896 z_5897 _ _ _ b_z_5895 ⟨(om_83b90de5 hi0_n_5898.1 vx_5919), (om_8267bec5 pl_fM_fresh.2.2.2.1.2 cx_5899 gc_5900 vx_5919)⟩ hi1_n_5898 (ms_lt hm_n_5898 (om_ed22490e vx_5919) (om_e4be4046 pl_fM_fresh.2.2.2.1.2 cx_5899 gc_5900)) hG hP hD hS (lv_sub hl [0, 1, 2, 3] rfl)
            · skip
              have hG := hG.trans (if_pos c_5918)
              have gc_5918 := ti_eq c_5918 rfl kc_0
              exact ((om_30d40e72 gc_5893 hi1_n_5898 gc_5918)).elim
      exact key_n_5898 (((4 - (0 : Int32).toInt).toNat) + 1) 0 x_5891 x_5889 x_5890 _ _ _ b_x_5891 ⟨(om_b1de7dbe kc_0), (om_bebe011a kc_0)⟩ om_1cb5f934 (Nat.lt_add_one _) hG hP hD hS hl
    · skip
      have hG := hG.trans (if_pos c_5893)
      have gc_5893 := ti_eq c_5893 rfl kc_0
      have h_5920 : 1 ≤ (fM_fresh 1).toInt := e_x_5889_1 (om_02e9bb08 gc_5893)
      clear e_x_5889_1
      have h_5921 : x_5892.toInt < (fM_fresh 1).toInt := lx_5892.2.1 h_5920
      refine lv_aload_n hx hb dX7_unsureLine_32 rfl (lv_at hl 2 rfl) ?_
      refine va_get (D := (dC, dI)) (ci := 7) (v := .ref rM_fresh) (C := RX7) (T := TX7) (N := 48) hx hb hts inX7 hown hK hP 0 rfl rfl 16 (by decide) (hts _ wd_156) (fun _ h9 => h9) rfl dX7_unsureLine_33 ?_
      refine lv_bipush (v := 9) hx hb dX7_unsureLine_36 (by decide) ?_
      refine lv_iload_n hx hb dX7_unsureLine_38 rfl (lv_at hl 0 rfl) ?_
      refine lv_iadd hx hb dX7_unsureLine_39 ?_
      refine lv_topi (fun x_5922 ex_5922 => ?_)
      have hG := hG.trans (lt_eq ex_5922)
      have vx_5922 : x_5922.toInt = x_5892.toInt + 9 := om_296ce4dd (ti_add ex_5922 kc_9 rfl (om_090bbef4 lx_5892.1) (om_04280604 lx_5892.2.2))
      refine va_iald hx hb hK hP 3 2 rfl rfl (ti_in vx_5922 (om_edbe2e4c lx_5892.1) (om_60db842a lx_5892.2.2)) dX7_unsureLine_40 ?_
      refine lv_topi (fun x_5923 ex_5923 => ?_)
      have hG := hG.trans (lt_eq ex_5923)
      have kx_5923 : (fM_fresh x_5922.toNatClampNeg).toInt = x_5923.toInt := by rw [ex_5923]
      have cx_5923 : (fM_fresh (9 + x_5892.toNatClampNeg)).toInt = x_5923.toInt := by rw [show 9 + x_5892.toNatClampNeg = x_5922.toNatClampNeg from (om_32f1c3e7 (ti_cl (x := x_5892) rfl lx_5892.1) (ti_cl (x := x_5922) vx_5922 (om_edbe2e4c lx_5892.1)))]; exact kx_5923
      refine lv_if_eq (tgt := 53) hx hb dX7_unsureLine_41 (by decide) (fun c_5924 => ?_) (fun c_5924 => ?_)
      · skip
        have hG := hG.trans (if_pos c_5924)
        have gc_5924 := ti_eq c_5924 rfl kc_0
        refine lv_iconst (v := 0) hx hb dX7_unsureLine_53 (by decide) ?_
        refine lv_istore_n (lv' := [(3, .int 0), (2, .int x_5892), (1, .int x_5888), (0, .ref oM)]) hx hb dX7_unsureLine_54 rfl hl (by decide) rfl (fun ls hl => ?_)
        have hl := lv_sub hl (l' := [(3, .int 0), (2, .int x_5892), (1, .int x_5888), (0, .ref oM)]) [0, 1, 2, 3] rfl
        have key_n_5929 : ∀ (n_5929 : Nat) (z_5925 : Int32) (z_5926 : Int32) (z_5927 : Int32) (z_5928 : Int32) (H : Heap) (locs : List Loc) (ls : Array Slot), (0 ≤ z_5926.toInt ∧ z_5926.toInt ≤ 1) → (0 ≤ z_5925.toInt ∧ z_5925.toInt ≤ 4) → (x_5891.toInt ≤ z_5926.toInt) → (4 - z_5925.toInt).toNat < n_5929 → (PX7_unsureLine fM_tape iM_size iM_at iM_end iM_token iM_whole iM_nameSize iM_fault iM_place fM_letters iM_failed fM_fresh = HX7_unsureLine_0 fM_tape iM_size iM_at iM_end iM_token iM_whole iM_nameSize fM_letters fM_fresh x_5888 x_5892 n_5929 z_5925 z_5926 z_5927 z_5928) → va_P (dC, dI) vwCl [(oc7 oM iM_thrown rM_tape iM_taped iM_size iM_at iM_end iM_token iM_whole iM_nameSize z_5927 z_5928 iM_trouble rM_letters z_5926 iM_hasCourt rM_r rM_fresh rM_told rM_read rM_st rM_undone rM_kept iM_undos iM_images rM_fresher iM_fresherSize iM_scale iM_night rM_heardRow rM_cutRow iM_breaths iM_cutMany iM_allBreaths rM_trial rM_words iM_fewestBreaths iM_orderMany iM_orderSum iM_leastOrder rM_often iM_setMany iM_someOf iM_allOf iM_allWeight iM_enoughWeight iM_worthSum iM_firstRest iM_leastDrawn), (arI rM_tape kM_tape 900 fM_tape), (arI rM_letters kM_letters 8 fM_letters), (arI rM_fresh kM_fresh 287 fM_fresh), (arI rM_read kM_read 90 fM_read)] H → va_D A [(oc7 oM iM_thrown rM_tape iM_taped iM_size iM_at iM_end iM_token iM_whole iM_nameSize z_5927 z_5928 iM_trouble rM_letters z_5926 iM_hasCourt rM_r rM_fresh rM_told rM_read rM_st rM_undone rM_kept iM_undos iM_images rM_fresher iM_fresherSize iM_scale iM_night rM_heardRow rM_cutRow iM_breaths iM_cutMany iM_allBreaths rM_trial rM_words iM_fewestBreaths iM_orderMany iM_orderSum iM_leastOrder rM_often iM_setMany iM_someOf iM_allOf iM_allWeight iM_enoughWeight iM_worthSum iM_firstRest iM_leastDrawn), (arI rM_tape kM_tape 900 fM_tape), (arI rM_letters kM_letters 8 fM_letters), (arI rM_fresh kM_fresh 287 fM_fresh), (arI rM_read kM_read 90 fM_read)] → va_S A s.heap H locs → lv_has ls 4 [(3, .int z_5925), (2, .int x_5892), (1, .int x_5888), (0, .ref oM)] → W p l e (headSpec (Cond.code yX7_unsureLine cX7_unsureLine 4 none :: wG) ({ frames := 7, cells := 0, slots := 0, locals := 175 })).room s m ([.ref oM] : List Value).toArray below meth c H locs 0 0 (MQ below (va_Qv (fun (_ : Nat) => True) (fun (_ : Nat) (t : State) => ∃ (niM_at : Int32) (niM_end : Int32) (niM_token : Int32) (niM_whole : Int32) (niM_nameSize : Int32) (niM_fault : Int32) (niM_place : Int32) (niM_failed : Int32) (nfM_letters : Nat → Int32) (nfM_fresh : Nat → Int32), (0 ≤ niM_end.toInt ∧ niM_end.toInt ≤ 900) ∧ (0 ≤ niM_nameSize.toInt ∧ niM_nameSize.toInt ≤ 900) ∧ (0 ≤ niM_failed.toInt ∧ niM_failed.toInt ≤ 1) ∧ (iM_end.toInt ≤ niM_end.toInt) ∧ (ImpP (niM_token.toInt = 2) (niM_nameSize.toInt ≤ 8)) ∧ (iM_failed.toInt ≤ niM_failed.toInt) ∧ (ImpP (niM_failed.toInt ≤ 0 ∧ niM_token.toInt = 59 ) (iM_end.toInt + 1 ≤ niM_end.toInt)) ∧ (POk nfM_fresh fM_read) ∧ (PX7_unsureLine fM_tape iM_size iM_at iM_end iM_token iM_whole iM_nameSize iM_fault iM_place fM_letters iM_failed fM_fresh = (niM_at, niM_end, niM_token, niM_whole, niM_nameSize, niM_fault, niM_place, niM_failed, nfM_letters, nfM_fresh)) ∧ Bw dC dI A [(oc7 oM iM_thrown rM_tape iM_taped iM_size niM_at niM_end niM_token niM_whole niM_nameSize niM_fault niM_place iM_trouble rM_letters niM_failed iM_hasCourt rM_r rM_fresh rM_told rM_read rM_st rM_undone rM_kept iM_undos iM_images rM_fresher iM_fresherSize iM_scale iM_night rM_heardRow rM_cutRow iM_breaths iM_cutMany iM_allBreaths rM_trial rM_words iM_fewestBreaths iM_orderMany iM_orderSum iM_leastOrder rM_often iM_setMany iM_someOf iM_allOf iM_allWeight iM_enoughWeight iM_worthSum iM_firstRest iM_leastDrawn), (arI rM_tape kM_tape 900 fM_tape), (arI rM_letters kM_letters 8 nfM_letters), (arI rM_fresh kM_fresh 287 nfM_fresh), (arI rM_read kM_read 90 fM_read)] [(kM_tape, .int), (kM_letters, .int), (kM_fresh, .int), (kM_read, .int)] t) A) ([.ref oM] : List Value).toArray s 0 0 A) (F0 m 55 ls []) := by
          intro n_5929
          induction n_5929 with
          | zero => intro z_5925 z_5926 z_5927 z_5928 H locs ls b_z_5926 hi0_n_5929 hi1_n_5929 hm; exact absurd hm (Nat.not_lt_zero _)
          | succ n_5929 ih_n_5929 =>
            intro z_5925 z_5926 z_5927 z_5928 H locs ls b_z_5926 hi0_n_5929 hi1_n_5929 hm_n_5929 hG hP hD hS hl
            have hG := hG.trans (HX7_unsureLine_0_eq _ _ _ _ _ _ _ _ _ _ _ _ _ _ _ _)
            refine lv_iload_n hx hb dX7_unsureLine_55 rfl (lv_at hl 0 rfl) ?_
            refine lv_aload_n hx hb dX7_unsureLine_56 rfl (lv_at hl 3 rfl) ?_
            refine va_get (D := (dC, dI)) (ci := 7) (v := .ref rM_fresh) (C := RX7) (T := TX7) (N := 48) hx hb hts inX7 hown hK hP 0 rfl rfl 16 (by decide) (hts _ wd_156) (fun _ h9 => h9) rfl dX7_unsureLine_57 ?_
            refine lv_iconst (v := 3) hx hb dX7_unsureLine_60 (by decide) ?_
            refine va_iald hx hb hK hP 3 2 rfl rfl (by unfold vp_in; decide) dX7_unsureLine_61 ?_
            refine lv_topi (fun x_5930 ex_5930 => ?_)
            have hG := hG.trans (lt_eq ex_5930)
            have cx_5930 : (fM_fresh 3).toInt = x_5930.toInt := congrArg Int32.toInt (show fM_fresh 3 = x_5930 from ex_5930.symm)
            refine lv_icmp_ge (tgt := 102) hx hb dX7_unsureLine_62 (by decide) (fun c_5931 => ?_) (fun c_5931 => ?_)
            · skip
              have hG := hG.trans (if_pos c_5931)
              have gc_5931 := ti_le c_5931 rfl rfl
              refine lv_aload_n hx hb dX7_unsureLine_102 rfl (lv_at hl 3 rfl) ?_
              have hMs := ml_of hD [true, true, true, false, false] (wc := [(oc7 oM iM_thrown rM_tape iM_taped iM_size iM_at iM_end iM_token iM_whole iM_nameSize z_5927 z_5928 iM_trouble rM_letters z_5926 iM_hasCourt rM_r rM_fresh rM_told rM_read rM_st rM_undone rM_kept iM_undos iM_images rM_fresher iM_fresherSize iM_scale iM_night rM_heardRow rM_cutRow iM_breaths iM_cutMany iM_allBreaths rM_trial rM_words iM_fewestBreaths iM_orderMany iM_orderSum iM_leastOrder rM_often iM_setMany iM_someOf iM_allOf iM_allWeight iM_enoughWeight iM_worthSum iM_firstRest iM_leastDrawn), (arI rM_tape kM_tape 900 fM_tape), (arI rM_letters kM_letters 8 fM_letters)]) rfl
              have hFc := va_freeM hD hS hA _ hMs
              refine va_callv (va_runV (As := []) (rest := []) ⟨hx, hb, hml, hown, hts⟩ (tX7_pass l dC dI _ oM iM_thrown rM_tape fM_tape kM_tape iM_taped iM_size iM_at iM_end iM_token iM_whole iM_nameSize z_5927 z_5928 iM_trouble rM_letters fM_letters kM_letters z_5926 iM_hasCourt rM_r rM_fresh rM_told rM_read rM_st rM_undone rM_kept iM_undos iM_images rM_fresher iM_fresherSize iM_scale iM_night rM_heardRow rM_cutRow iM_breaths iM_cutMany iM_allBreaths rM_trial rM_words iM_fewestBreaths iM_orderMany iM_orderSum iM_leastOrder rM_often iM_setMany iM_someOf iM_allOf iM_allWeight iM_enoughWeight iM_worthSum iM_firstRest iM_leastDrawn b_iM_taped b_iM_size b_iM_end b_iM_nameSize b_z_5926 b_iM_hasCourt b_iM_undos b_iM_images b_iM_scale b_iM_breaths b_iM_cutMany r_T) (cwV 0 hts (wd_V wd_454 wd_455 wd_456 wd_5 (wd_c wd_457)) rfl rfl rfl dv_yX7_pass_0 ⟨Nat.le_of_ble_eq_true rfl, Nat.le_of_ble_eq_true rfl⟩) ⟨Pw.fb, recvX7 hK hP (q0 := 0) rfl, fun U hU hW => Pw.to (hP.ms _ hMs) (hD.ms _ hMs) (hK.ms [true, true, false, false] rfl) hE hS hFc hU hW⟩ rfl rfl hl.1 rfl (lv_room (Nat.le_of_ble_eq_true rfl)) dX7_unsureLine_103 ⟨Nat.le_of_ble_eq_true rfl, Nat.le_of_ble_eq_true rfl⟩) hS (fun q _ h => hFc q h) hFc (fun u t H locs ht hvm hw hB hz1 hk1 hS => ?_)
              refine ex_6_6 hB (fun x_5932 x_5933 x_5934 x_5935 x_5936 f_5937 b_x_5933 b_x_5936 e_x_5932_0 e_x_5932_1 e_x_5932_2 e_x_5932_3 hB => ?_)
              obtain ⟨hP, hD⟩ := Bw.goN (ws' := [(oc7 oM iM_thrown rM_tape iM_taped iM_size x_5932 x_5933 x_5934 x_5935 x_5936 z_5927 z_5928 iM_trouble rM_letters z_5926 iM_hasCourt rM_r rM_fresh rM_told rM_read rM_st rM_undone rM_kept iM_undos iM_images rM_fresher iM_fresherSize iM_scale iM_night rM_heardRow rM_cutRow iM_breaths iM_cutMany iM_allBreaths rM_trial rM_words iM_fewestBreaths iM_orderMany iM_orderSum iM_leastOrder rM_often iM_setMany iM_someOf iM_allOf iM_allWeight iM_enoughWeight iM_worthSum iM_firstRest iM_leastDrawn), (arI rM_tape kM_tape 900 fM_tape), (arI rM_letters kM_letters 8 f_5937), (arI rM_fresh kM_fresh 287 fM_fresh), (arI rM_read kM_read 90 fM_read)]) hB rfl ht hP hD _ hMs hk1 hFc rfl
              clear hz1 hk1 hvm ht hB hMs
              have hG := hG.trans (un6_eq e_x_5932_3)
              clear r_T
              refine lv_aload_n hx hb dX7_unsureLine_106 rfl (lv_at hl 3 rfl) ?_
              refine lv_iconst (v := 0) hx hb dX7_unsureLine_107 (by decide) ?_
              refine lv_bipush (v := 99) hx hb dX7_unsureLine_108 (by decide) ?_
              have hMs := ml_of hD [true, true, true, false, false] (wc := [(oc7 oM iM_thrown rM_tape iM_taped iM_size x_5932 x_5933 x_5934 x_5935 x_5936 z_5927 z_5928 iM_trouble rM_letters z_5926 iM_hasCourt rM_r rM_fresh rM_told rM_read rM_st rM_undone rM_kept iM_undos iM_images rM_fresher iM_fresherSize iM_scale iM_night rM_heardRow rM_cutRow iM_breaths iM_cutMany iM_allBreaths rM_trial rM_words iM_fewestBreaths iM_orderMany iM_orderSum iM_leastOrder rM_often iM_setMany iM_someOf iM_allOf iM_allWeight iM_enoughWeight iM_worthSum iM_firstRest iM_leastDrawn), (arI rM_tape kM_tape 900 fM_tape), (arI rM_letters kM_letters 8 f_5937)]) rfl
              have hFc := va_freeM hD hS hA _ hMs
              refine va_calli (va_runV (As := [.int 0, .int 99]) (rest := []) ⟨hx, hb, hml, hown, hts⟩ (tX7_number l dC dI _ oM iM_thrown rM_tape fM_tape kM_tape iM_taped iM_size x_5932 x_5933 x_5934 x_5935 x_5936 z_5927 z_5928 iM_trouble rM_letters f_5937 kM_letters z_5926 iM_hasCourt rM_r rM_fresh rM_told rM_read rM_st rM_undone rM_kept iM_undos iM_images rM_fresher iM_fresherSize iM_scale iM_night rM_heardRow rM_cutRow iM_breaths iM_cutMany iM_allBreaths rM_trial rM_words iM_fewestBreaths iM_orderMany iM_orderSum iM_leastOrder rM_often iM_setMany iM_someOf iM_allOf iM_allWeight iM_enoughWeight iM_worthSum iM_firstRest iM_leastDrawn 0 99 b_iM_taped b_iM_size b_x_5933 b_x_5936 b_z_5926 b_iM_hasCourt b_iM_undos b_iM_images b_iM_scale b_iM_breaths b_iM_cutMany e_x_5932_1 (om_b0b40937 kc_0 kc_99)) (cwV 2 hts (wd_V wd_446 wd_447 wd_448 wd_5 (wd_c wd_449)) rfl rfl rfl dv_yX7_number_2 ⟨Nat.le_of_ble_eq_true rfl, Nat.le_of_ble_eq_true rfl⟩) ⟨Pw.fb, recvX7 hK hP (q0 := 0) rfl, fun U hU hW => Pw.to (hP.ms _ hMs) (hD.ms _ hMs) (hK.ms [true, true, false, false] rfl) hE hS hFc hU hW⟩ rfl rfl hl.1 rfl (lv_room (Nat.le_of_ble_eq_true rfl)) dX7_unsureLine_110 ⟨Nat.le_of_ble_eq_true rfl, Nat.le_of_ble_eq_true rfl⟩) hS (fun q _ h => hFc q h) hFc (fun r u t H locs ht hvm hw hB hz1 hk1 hS => ?_)
              have hru9 := hw.2
              have hw := hw.1
              refine ex_9_8 hB (fun x_5938 x_5939 x_5940 x_5941 x_5942 x_5943 x_5944 x_5945 f_5946 b_x_5939 b_x_5942 b_x_5945 e_x_5938_0 e_x_5938_1 e_x_5938_2 e_x_5938_3 e_x_5938_4 hB => ?_)
              obtain ⟨hP, hD⟩ := Bw.goN (ws' := [(oc7 oM iM_thrown rM_tape iM_taped iM_size x_5938 x_5939 x_5940 x_5941 x_5942 x_5943 x_5944 iM_trouble rM_letters x_5945 iM_hasCourt rM_r rM_fresh rM_told rM_read rM_st rM_undone rM_kept iM_undos iM_images rM_fresher iM_fresherSize iM_scale iM_night rM_heardRow rM_cutRow iM_breaths iM_cutMany iM_allBreaths rM_trial rM_words iM_fewestBreaths iM_orderMany iM_orderSum iM_leastOrder rM_often iM_setMany iM_someOf iM_allOf iM_allWeight iM_enoughWeight iM_worthSum iM_firstRest iM_leastDrawn), (arI rM_tape kM_tape 900 fM_tape), (arI rM_letters kM_letters 8 f_5946), (arI rM_fresh kM_fresh 287 fM_fresh), (arI rM_read kM_read 90 fM_read)]) hB rfl ht hP hD _ hMs hk1 hFc rfl
              clear hz1 hk1 hvm ht hB hMs
              rw [← hru9] at e_x_5938_4
              obtain ⟨x_5947, rfl⟩ : ∃ z, z = r := ⟨_, rfl⟩
              have hG := hG.trans (un10_eq e_x_5938_4)
              have lx_5947 := hw.2
              have kl_0 := kc_0
              have kl_99 := kc_99
              clear e_x_5932_1
              clear e_x_5932_2
              refine lv_istore_n (lv' := [(3, .int x_5947), (2, .int x_5892), (1, .int x_5888), (0, .ref oM)]) hx hb dX7_unsureLine_113 rfl hl (by decide) rfl (fun ls hl => ?_)
              refine lv_aload_n hx hb dX7_unsureLine_114 rfl (lv_at hl 3 rfl) ?_
              refine va_get (D := (dC, dI)) (ci := 7) (v := .int x_5945) (C := RX7) (T := TX7) (N := 48) hx hb hts inX7 hown hK hP 0 rfl rfl 13 (by decide) (hts _ wd_380) (fun _ h9 => h9) rfl dX7_unsureLine_115 ?_
              refine lv_if_eq (tgt := 122) hx hb dX7_unsureLine_118 (by decide) (fun c_5948 => ?_) (fun c_5948 => ?_)
              · skip
                have hG := hG.trans (if_pos c_5948)
                have gc_5948 := ti_eq c_5948 rfl kc_0
                refine lv_aload_n hx hb dX7_unsureLine_122 rfl (lv_at hl 3 rfl) ?_
                refine va_get (D := (dC, dI)) (ci := 7) (v := .ref rM_fresh) (C := RX7) (T := TX7) (N := 48) hx hb hts inX7 hown hK hP 0 rfl rfl 16 (by decide) (hts _ wd_156) (fun _ h9 => h9) rfl dX7_unsureLine_123 ?_
                refine lv_iload_n hx hb dX7_unsureLine_126 rfl (lv_at hl 2 rfl) ?_
                refine lv_iload_n hx hb dX7_unsureLine_127 rfl (lv_at hl 1 rfl) ?_
                refine va_iast hx hb hK hP hD hS 3 2 rfl rfl (ti_in vx_5888 (om_e01513d4 pl_fM_fresh.2.2.2.1.1 cx_5886) (om_b23ddd3e pl_fM_fresh.2.2.2.1.2 cx_5886)) dX7_unsureLine_128 (fun H locs hP hD hS => ?_)
                obtain ⟨f_5949, ef_5949⟩ : ∃ g : Nat → Int32, g = upd fM_fresh x_5888.toNatClampNeg x_5892 := ⟨_, rfl⟩
                rw [← ef_5949] at hP hD
                have hG := hG.trans (lt_eq ef_5949)
                obtain ⟨hP, hD⟩ := wl2 (ws' := [(oc7 oM iM_thrown rM_tape iM_taped iM_size x_5938 x_5939 x_5940 x_5941 x_5942 x_5943 x_5944 iM_trouble rM_letters x_5945 iM_hasCourt rM_r rM_fresh rM_told rM_read rM_st rM_undone rM_kept iM_undos iM_images rM_fresher iM_fresherSize iM_scale iM_night rM_heardRow rM_cutRow iM_breaths iM_cutMany iM_allBreaths rM_trial rM_words iM_fewestBreaths iM_orderMany iM_orderSum iM_leastOrder rM_often iM_setMany iM_someOf iM_allOf iM_allWeight iM_enoughWeight iM_worthSum iM_firstRest iM_leastDrawn), (arI rM_tape kM_tape 900 fM_tape), (arI rM_letters kM_letters 8 f_5946), (arI rM_fresh kM_fresh 287 f_5949), (arI rM_read kM_read 90 fM_read)]) hP hD rfl
                have pk_f_5949 : POk f_5949 fM_read := POk.put r_P ef_5949 (Or.inr (Or.inr (Or.inr (Or.inr (Or.inr (Or.inr ((by have q9 := ti_cl (x := x_5888) vx_5888 (om_e01513d4 pl_fM_fresh.2.2.2.1.1 cx_5886); omega))))))))
                have pl_f_5949 := pk_f_5949.lins
                have o3_f_5949 : (f_5949 3).toInt = (fM_fresh 3).toInt := put_at ef_5949 (Nat.ne_of_lt (om_a84bc89b (ti_cl (x := x_5888) vx_5888 (om_e01513d4 pl_fM_fresh.2.2.2.1.1 cx_5886)) pl_fM_fresh.2.2.2.1.1 cx_5886))
                refine lv_aload_n hx hb dX7_unsureLine_129 rfl (lv_at hl 3 rfl) ?_
                refine va_get (D := (dC, dI)) (ci := 7) (v := .ref rM_fresh) (C := RX7) (T := TX7) (N := 48) hx hb hts inX7 hown hK hP 0 rfl rfl 16 (by decide) (hts _ wd_156) (fun _ h9 => h9) rfl dX7_unsureLine_130 ?_
                refine lv_iload_n hx hb dX7_unsureLine_133 rfl (lv_at hl 2 rfl) ?_
                refine lv_iconst (v := 1) hx hb dX7_unsureLine_134 (by decide) ?_
                refine lv_iadd hx hb dX7_unsureLine_135 ?_
                refine lv_topi (fun x_5950 ex_5950 => ?_)
                have hG := hG.trans (lt_eq ex_5950)
                have vx_5950 : x_5950.toInt = 2 * x_5886.toInt + 118 := om_c314a240 (ti_add ex_5950 vx_5888 kc_1 (om_8d6fa258 pl_fM_fresh.2.2.2.1.1 cx_5886) (om_63106487 pl_fM_fresh.2.2.2.1.2 cx_5886))
                refine lv_iload_n hx hb dX7_unsureLine_136 rfl (lv_at hl 0 rfl) ?_
                refine va_iast hx hb hK hP hD hS 3 2 rfl rfl (ti_in vx_5950 (om_36428d7e pl_fM_fresh.2.2.2.1.1 cx_5886) (om_dd31f364 pl_fM_fresh.2.2.2.1.2 cx_5886)) dX7_unsureLine_137 (fun H locs hP hD hS => ?_)
                obtain ⟨f_5951, ef_5951⟩ : ∃ g : Nat → Int32, g = upd f_5949 x_5950.toNatClampNeg x_5947 := ⟨_, rfl⟩
                rw [← ef_5951] at hP hD
                have hG := hG.trans (lt_eq ef_5951)
                obtain ⟨hP, hD⟩ := wl2 (ws' := [(oc7 oM iM_thrown rM_tape iM_taped iM_size x_5938 x_5939 x_5940 x_5941 x_5942 x_5943 x_5944 iM_trouble rM_letters x_5945 iM_hasCourt rM_r rM_fresh rM_told rM_read rM_st rM_undone rM_kept iM_undos iM_images rM_fresher iM_fresherSize iM_scale iM_night rM_heardRow rM_cutRow iM_breaths iM_cutMany iM_allBreaths rM_trial rM_words iM_fewestBreaths iM_orderMany iM_orderSum iM_leastOrder rM_often iM_setMany iM_someOf iM_allOf iM_allWeight iM_enoughWeight iM_worthSum iM_firstRest iM_leastDrawn), (arI rM_tape kM_tape 900 fM_tape), (arI rM_letters kM_letters 8 f_5946), (arI rM_fresh kM_fresh 287 f_5951), (arI rM_read kM_read 90 fM_read)]) hP hD rfl
                have pk_f_5951 : POk f_5951 fM_read := POk.put pk_f_5949 ef_5951 (Or.inr (Or.inr (Or.inr (Or.inr (Or.inr (Or.inr ((by have q9 := ti_cl (x := x_5950) vx_5950 (om_36428d7e pl_fM_fresh.2.2.2.1.1 cx_5886); omega))))))))
                have pl_f_5951 := pk_f_5951.lins
                have o3_f_5951 : (f_5951 3).toInt = (f_5949 3).toInt := put_at ef_5951 (Nat.ne_of_lt (om_44c915d2 (ti_cl (x := x_5950) vx_5950 (om_36428d7e pl_fM_fresh.2.2.2.1.1 cx_5886)) pl_fM_fresh.2.2.2.1.1 cx_5886))
                refine lv_aload_n hx hb dX7_unsureLine_138 rfl (lv_at hl 3 rfl) ?_
                refine va_get (D := (dC, dI)) (ci := 7) (v := .ref rM_fresh) (C := RX7) (T := TX7) (N := 48) hx hb hts inX7 hown hK hP 0 rfl rfl 16 (by decide) (hts _ wd_156) (fun _ h9 => h9) rfl dX7_unsureLine_139 ?_
                refine lv_iconst (v := 3) hx hb dX7_unsureLine_142 (by decide) ?_
                refine lv_dup2_11 hx hb dX7_unsureLine_143 rfl rfl ?_
                refine va_iald hx hb hK hP 3 2 rfl rfl (by unfold vp_in; decide) dX7_unsureLine_144 ?_
                refine lv_topi (fun x_5952 ex_5952 => ?_)
                have hG := hG.trans (lt_eq ex_5952)
                have cx_5952 : (f_5951 3).toInt = x_5952.toInt := congrArg Int32.toInt (show f_5951 3 = x_5952 from ex_5952.symm)
                refine lv_iconst (v := 1) hx hb dX7_unsureLine_145 (by decide) ?_
                refine lv_iadd hx hb dX7_unsureLine_146 ?_
                refine lv_topi (fun x_5953 ex_5953 => ?_)
                have hG := hG.trans (lt_eq ex_5953)
                have vx_5953 : x_5953.toInt = x_5952.toInt + 1 := ti_add ex_5953 rfl kc_1 (om_c68f1f10 pl_f_5951.2.2.2.1.1 cx_5952) (om_5922c878 pl_f_5951.2.2.2.1.2 cx_5952)
                refine va_iast hx hb hK hP hD hS 3 2 rfl rfl (by unfold vp_in; decide) dX7_unsureLine_147 (fun H locs hP hD hS => ?_)
                obtain ⟨f_5954, ef_5954⟩ : ∃ g : Nat → Int32, g = upd f_5951 (3 : Int32).toNatClampNeg x_5953 := ⟨_, rfl⟩
                rw [← ef_5954] at hP hD
                have hG := hG.trans (lt_eq ef_5954)
                obtain ⟨hP, hD⟩ := wl2 (ws' := [(oc7 oM iM_thrown rM_tape iM_taped iM_size x_5938 x_5939 x_5940 x_5941 x_5942 x_5943 x_5944 iM_trouble rM_letters x_5945 iM_hasCourt rM_r rM_fresh rM_told rM_read rM_st rM_undone rM_kept iM_undos iM_images rM_fresher iM_fresherSize iM_scale iM_night rM_heardRow rM_cutRow iM_breaths iM_cutMany iM_allBreaths rM_trial rM_words iM_fewestBreaths iM_orderMany iM_orderSum iM_leastOrder rM_often iM_setMany iM_someOf iM_allOf iM_allWeight iM_enoughWeight iM_worthSum iM_firstRest iM_leastDrawn), (arI rM_tape kM_tape 900 fM_tape), (arI rM_letters kM_letters 8 f_5946), (arI rM_fresh kM_fresh 287 f_5954), (arI rM_read kM_read 90 fM_read)]) hP hD rfl
                have pk_f_5954 : POk f_5954 fM_read := POk.put pk_f_5951 ef_5954 (Or.inr (Or.inr (Or.inr (Or.inr (Or.inl (by have q9 : ((3 : Int32).toNatClampNeg : Nat) = 3 := rfl; omega))))))
                have pl_f_5954 := pk_f_5954.lins
                exact wq_v hx hb hr 0 trivial (fun t ht hW => ⟨x_5938, x_5939, x_5940, x_5941, x_5942, x_5943, x_5944, x_5945, f_5946, f_5954, b_x_5939, b_x_5942, b_x_5945, (om_9348f5ae e_x_5932_0 e_x_5938_0), e_x_5938_1, (om_1fc3dec6 gc_5884 b_x_5945.1), (fun h9 => (om_7ed234da e_x_5932_0 (e_x_5938_3 ⟨(om_02e9bb08 gc_5948), h9.2⟩))), pk_f_5954, hG, Bw.to hP hD hK ht hW⟩) hS dX7_unsureLine_148 hlocks
              · skip
                have hG := hG.trans (if_neg c_5948)
                have gc_5948 := ti_ne c_5948 rfl kc_0
                replace gc_5948 : (-1) * x_5945.toInt + 1 ≤ 0 := om_e3003f79 gc_5948 b_x_5945.1
                exact wq_v hx hb hr 0 trivial (fun t ht hW => ⟨x_5938, x_5939, x_5940, x_5941, x_5942, x_5943, x_5944, x_5945, f_5946, fM_fresh, b_x_5939, b_x_5942, b_x_5945, (om_9348f5ae e_x_5932_0 e_x_5938_0), e_x_5938_1, (om_1fc3dec6 gc_5884 b_x_5945.1), (fun h9 => False.elim (om_a5fe015d gc_5948 h9.1)), r_P, hG, Bw.to hP hD hK ht hW⟩) hS dX7_unsureLine_121 hlocks
            · skip
              have hG := hG.trans (if_neg c_5931)
              have gc_5931 := ti_nle c_5931 rfl rfl
              refine lv_aload_n hx hb dX7_unsureLine_65 rfl (lv_at hl 3 rfl) ?_
              refine va_get (D := (dC, dI)) (ci := 7) (v := .int z_5926) (C := RX7) (T := TX7) (N := 48) hx hb hts inX7 hown hK hP 0 rfl rfl 13 (by decide) (hts _ wd_380) (fun _ h9 => h9) rfl dX7_unsureLine_66 ?_
              refine lv_if_ne (tgt := 96) hx hb dX7_unsureLine_69 (by decide) (fun c_5955 => ?_) (fun c_5955 => ?_)
              · skip
                have hG := hG.trans (if_neg c_5955)
                have gc_5955 := ti_ne c_5955 rfl kc_0
                replace gc_5955 : (-1) * z_5926.toInt + 1 ≤ 0 := om_e3003f79 gc_5955 b_z_5926.1
                obtain ⟨x_5956, ex_5956⟩ : ∃ z : Int32, z = z_5925 + Int32.ofInt 1 := ⟨_, rfl⟩
                have hG := hG.trans (lt_eq ex_5956)
                have vx_5956 : x_5956.toInt = z_5925.toInt + 1 := ti_add (y := 1) ex_5956 rfl kc_1 (om_4e4fce7e hi0_n_5929.1) (om_bae2951a hi0_n_5929.2)
                refine lv_iinc (v := x_5956) (lv' := [(3, .int x_5956), (2, .int x_5892), (1, .int x_5888), (0, .ref oM)]) hx hb dX7_unsureLine_96 hl (k := 0) rfl ex_5956.symm (by decide) rfl (fun ls hl => ?_)
                refine lv_goto (tgt := 55) hx hb dX7_unsureLine_99 (by decide) ?_
                exact ih_n_5929 x_5956 z_5926 z_5927 z_5928 _ _ _ b_z_5926 ⟨(om_83b90de5 hi0_n_5929.1 vx_5956), (om_8267bec5 pl_fM_fresh.2.2.2.1.2 cx_5930 gc_5931 vx_5956)⟩ (om_1fc3dec6 gc_5893 b_z_5926.1) (ms_lt hm_n_5929 (om_ed22490e vx_5956) (om_e4be4046 pl_fM_fresh.2.2.2.1.2 cx_5930 gc_5931)) hG hP hD hS (lv_sub hl [0, 1, 2, 3] rfl)
              · skip
                have hG := hG.trans (if_pos c_5955)
                have gc_5955 := ti_eq c_5955 rfl kc_0
                refine lv_aload_n hx hb dX7_unsureLine_72 rfl (lv_at hl 3 rfl) ?_
                refine va_get (D := (dC, dI)) (ci := 7) (v := .ref rM_fresh) (C := RX7) (T := TX7) (N := 48) hx hb hts inX7 hown hK hP 0 rfl rfl 16 (by decide) (hts _ wd_156) (fun _ h9 => h9) rfl dX7_unsureLine_73 ?_
                refine lv_bipush (v := 117) hx hb dX7_unsureLine_76 (by decide) ?_
                refine lv_iconst (v := 2) hx hb dX7_unsureLine_78 (by decide) ?_
                refine lv_iload_n hx hb dX7_unsureLine_79 rfl (lv_at hl 0 rfl) ?_
                refine lv_imul hx hb dX7_unsureLine_80 ?_
                refine lv_topi (fun x_5957 ex_5957 => ?_)
                have hG := hG.trans (lt_eq ex_5957)
                have vx_5957 : x_5957.toInt = 2 * z_5925.toInt := ti_mul ex_5957 kc_2 rfl (om_c5b3d97d hi0_n_5929.1) (om_e31e6d0e hi0_n_5929.2)
                refine lv_iadd hx hb dX7_unsureLine_81 ?_
                refine lv_topi (fun x_5958 ex_5958 => ?_)
                have hG := hG.trans (lt_eq ex_5958)
                have vx_5958 : x_5958.toInt = 2 * z_5925.toInt + 117 := om_67044d60 (ti_add ex_5958 kc_117 vx_5957 (om_6bb57472 hi0_n_5929.1) (om_12bf95c9 hi0_n_5929.2))
                refine va_iald hx hb hK hP 3 2 rfl rfl (ti_in vx_5958 (om_c8571833 hi0_n_5929.1) (om_f21b86dc hi0_n_5929.2)) dX7_unsureLine_82 ?_
                refine lv_topi (fun x_5959 ex_5959 => ?_)
                have hG := hG.trans (lt_eq ex_5959)
                have kx_5959 : (fM_fresh x_5958.toNatClampNeg).toInt = x_5959.toInt := by rw [ex_5959]
                have cx_5959 : (fM_fresh (117 + 2 * z_5925.toNatClampNeg)).toInt = x_5959.toInt := by rw [show 117 + 2 * z_5925.toNatClampNeg = x_5958.toNatClampNeg from (om_dbb1b72e (ti_cl (x := z_5925) rfl hi0_n_5929.1) (ti_cl (x := x_5958) vx_5958 (om_c8571833 hi0_n_5929.1)))]; exact kx_5959
                refine lv_iload_n hx hb dX7_unsureLine_83 rfl (lv_at hl 1 rfl) ?_
                refine lv_icmp_ne (tgt := 96) hx hb dX7_unsureLine_84 (by decide) (fun c_5960 => ?_) (fun c_5960 => ?_)
                · skip
                  have hG := hG.trans (if_neg c_5960)
                  have gc_5960 := ti_ne c_5960 rfl rfl
                  clear gc_5960
                  obtain ⟨x_5961, ex_5961⟩ : ∃ z : Int32, z = z_5925 + Int32.ofInt 1 := ⟨_, rfl⟩
                  have hG := hG.trans (lt_eq ex_5961)
                  have vx_5961 : x_5961.toInt = z_5925.toInt + 1 := ti_add (y := 1) ex_5961 rfl kc_1 (om_4e4fce7e hi0_n_5929.1) (om_bae2951a hi0_n_5929.2)
                  refine lv_iinc (v := x_5961) (lv' := [(3, .int x_5961), (2, .int x_5892), (1, .int x_5888), (0, .ref oM)]) hx hb dX7_unsureLine_96 hl (k := 0) rfl ex_5961.symm (by decide) rfl (fun ls hl => ?_)
                  refine lv_goto (tgt := 55) hx hb dX7_unsureLine_99 (by decide) ?_
                  exact ih_n_5929 x_5961 z_5926 z_5927 z_5928 _ _ _ b_z_5926 ⟨(om_83b90de5 hi0_n_5929.1 vx_5961), (om_8267bec5 pl_fM_fresh.2.2.2.1.2 cx_5930 gc_5931 vx_5961)⟩ (om_1fc3dec6 gc_5893 b_z_5926.1) (ms_lt hm_n_5929 (om_ed22490e vx_5961) (om_e4be4046 pl_fM_fresh.2.2.2.1.2 cx_5930 gc_5931)) hG hP hD hS (lv_sub hl [0, 1, 2, 3] rfl)
                · skip
                  have hG := hG.trans (if_pos c_5960)
                  have gc_5960 := ti_eq c_5960 rfl rfl
                  refine lv_aload_n hx hb dX7_unsureLine_87 rfl (lv_at hl 3 rfl) ?_
                  refine lv_iconst (v := 3) hx hb dX7_unsureLine_88 (by decide) ?_
                  refine lv_aload_n hx hb dX7_unsureLine_89 rfl (lv_at hl 3 rfl) ?_
                  refine va_get (D := (dC, dI)) (ci := 7) (v := .int iM_at) (C := RX7) (T := TX7) (N := 48) hx hb hts inX7 hown hK hP 0 rfl rfl 4 (by decide) (hts _ wd_384) (fun _ h9 => h9) rfl dX7_unsureLine_90 ?_
                  have hMs := ml_of hD [true, false, false, false, false] (wc := [(oc7 oM iM_thrown rM_tape iM_taped iM_size iM_at iM_end iM_token iM_whole iM_nameSize z_5927 z_5928 iM_trouble rM_letters z_5926 iM_hasCourt rM_r rM_fresh rM_told rM_read rM_st rM_undone rM_kept iM_undos iM_images rM_fresher iM_fresherSize iM_scale iM_night rM_heardRow rM_cutRow iM_breaths iM_cutMany iM_allBreaths rM_trial rM_words iM_fewestBreaths iM_orderMany iM_orderSum iM_leastOrder rM_often iM_setMany iM_someOf iM_allOf iM_allWeight iM_enoughWeight iM_worthSum iM_firstRest iM_leastDrawn)]) rfl
                  have hFc := va_freeM hD hS hA _ hMs
                  refine va_callv (va_runV (As := [.int 3, .int iM_at]) (rest := []) ⟨hx, hb, hml, hown, hts⟩ (tX7_wrong l dC dI _ oM iM_thrown rM_tape iM_taped iM_size iM_at iM_end iM_token iM_whole iM_nameSize z_5927 z_5928 iM_trouble rM_letters z_5926 iM_hasCourt rM_r rM_fresh rM_told rM_read rM_st rM_undone rM_kept iM_undos iM_images rM_fresher iM_fresherSize iM_scale iM_night rM_heardRow rM_cutRow iM_breaths iM_cutMany iM_allBreaths rM_trial rM_words iM_fewestBreaths iM_orderMany iM_orderSum iM_leastOrder rM_often iM_setMany iM_someOf iM_allOf iM_allWeight iM_enoughWeight iM_worthSum iM_firstRest iM_leastDrawn 3 iM_at b_iM_taped b_iM_size b_iM_end b_iM_nameSize b_z_5926 b_iM_hasCourt b_iM_undos b_iM_images b_iM_scale b_iM_breaths b_iM_cutMany r_T) (cwV 2 hts (wd_V wd_430 wd_431 wd_432 wd_5 (wd_c wd_433)) rfl rfl rfl dv_yX7_wrong_2 ⟨Nat.le_of_ble_eq_true rfl, Nat.le_of_ble_eq_true rfl⟩) ⟨Pw.fb, recvX7 hK hP (q0 := 0) rfl, fun U hU hW => Pw.to (hP.ms _ hMs) (hD.ms _ hMs) (hK.ms [false, false, false, false] rfl) hE hS hFc hU hW⟩ rfl rfl hl.1 rfl (lv_room (Nat.le_of_ble_eq_true rfl)) dX7_unsureLine_93 ⟨Nat.le_of_ble_eq_true rfl, Nat.le_of_ble_eq_true rfl⟩) hS (fun q _ h => hFc q h) hFc (fun u t H locs ht hvm hw hB hz1 hk1 hS => ?_)
                  refine ex_3_3 hB (fun x_5962 x_5963 x_5964 b_x_5964 e_x_5962_0 e_x_5962_1 hB => ?_)
                  obtain ⟨hP, hD⟩ := Bw.goN (ws' := [(oc7 oM iM_thrown rM_tape iM_taped iM_size iM_at iM_end iM_token iM_whole iM_nameSize x_5962 x_5963 iM_trouble rM_letters x_5964 iM_hasCourt rM_r rM_fresh rM_told rM_read rM_st rM_undone rM_kept iM_undos iM_images rM_fresher iM_fresherSize iM_scale iM_night rM_heardRow rM_cutRow iM_breaths iM_cutMany iM_allBreaths rM_trial rM_words iM_fewestBreaths iM_orderMany iM_orderSum iM_leastOrder rM_often iM_setMany iM_someOf iM_allOf iM_allWeight iM_enoughWeight iM_worthSum iM_firstRest iM_leastDrawn), (arI rM_tape kM_tape 900 fM_tape), (arI rM_letters kM_letters 8 fM_letters), (arI rM_fresh kM_fresh 287 fM_fresh), (arI rM_read kM_read 90 fM_read)]) hB rfl ht hP hD _ hMs hk1 hFc rfl
                  clear hz1 hk1 hvm ht hB hMs
                  have hG := hG.trans (un3_eq e_x_5962_1)
                  obtain ⟨x_5965, ex_5965⟩ : ∃ z : Int32, z = z_5925 + Int32.ofInt 1 := ⟨_, rfl⟩
                  have hG := hG.trans (lt_eq ex_5965)
                  have vx_5965 : x_5965.toInt = z_5925.toInt + 1 := ti_add (y := 1) ex_5965 rfl kc_1 (om_4e4fce7e hi0_n_5929.1) (om_bae2951a hi0_n_5929.2)
                  refine lv_iinc (v := x_5965) (lv' := [(3, .int x_5965), (2, .int x_5892), (1, .int x_5888), (0, .ref oM)]) hx hb dX7_unsureLine_96 hl (k := 0) rfl ex_5965.symm (by decide) rfl (fun ls hl => ?_)
                  refine lv_goto (tgt := 55) hx hb dX7_unsureLine_99 (by decide) ?_
                  exact ih_n_5929 x_5965 x_5964 x_5962 x_5963 _ _ _ b_x_5964 ⟨(om_83b90de5 hi0_n_5929.1 vx_5965), (om_8267bec5 pl_fM_fresh.2.2.2.1.2 cx_5930 gc_5931 vx_5965)⟩ (om_1fc3dec6 gc_5893 b_x_5964.1) (ms_lt hm_n_5929 (om_ed22490e vx_5965) (om_e4be4046 pl_fM_fresh.2.2.2.1.2 cx_5930 gc_5931)) hG hP hD hS (lv_sub hl [0, 1, 2, 3] rfl)
        exact key_n_5929 (((4 - (0 : Int32).toInt).toNat) + 1) 0 x_5891 x_5889 x_5890 _ _ _ b_x_5891 ⟨(om_b1de7dbe kc_0), (om_bebe011a kc_0)⟩ om_1cb5f934 (Nat.lt_add_one _) hG hP hD hS hl
      · skip
        have hG := hG.trans (if_neg c_5924)
        have gc_5924 := ti_ne c_5924 rfl kc_0
        clear gc_5924
        refine lv_aload_n hx hb dX7_unsureLine_44 rfl (lv_at hl 2 rfl) ?_
        refine lv_iconst (v := 2) hx hb dX7_unsureLine_45 (by decide) ?_
        refine lv_aload_n hx hb dX7_unsureLine_46 rfl (lv_at hl 2 rfl) ?_
        refine va_get (D := (dC, dI)) (ci := 7) (v := .int iM_at) (C := RX7) (T := TX7) (N := 48) hx hb hts inX7 hown hK hP 0 rfl rfl 4 (by decide) (hts _ wd_384) (fun _ h9 => h9) rfl dX7_unsureLine_47 ?_
        have hMs := ml_of hD [true, false, false, false, false] (wc := [(oc7 oM iM_thrown rM_tape iM_taped iM_size iM_at iM_end iM_token iM_whole iM_nameSize x_5889 x_5890 iM_trouble rM_letters x_5891 iM_hasCourt rM_r rM_fresh rM_told rM_read rM_st rM_undone rM_kept iM_undos iM_images rM_fresher iM_fresherSize iM_scale iM_night rM_heardRow rM_cutRow iM_breaths iM_cutMany iM_allBreaths rM_trial rM_words iM_fewestBreaths iM_orderMany iM_orderSum iM_leastOrder rM_often iM_setMany iM_someOf iM_allOf iM_allWeight iM_enoughWeight iM_worthSum iM_firstRest iM_leastDrawn)]) rfl
        have hFc := va_freeM hD hS hA _ hMs
        refine va_callv (va_runV (As := [.int 2, .int iM_at]) (rest := []) ⟨hx, hb, hml, hown, hts⟩ (tX7_wrong l dC dI _ oM iM_thrown rM_tape iM_taped iM_size iM_at iM_end iM_token iM_whole iM_nameSize x_5889 x_5890 iM_trouble rM_letters x_5891 iM_hasCourt rM_r rM_fresh rM_told rM_read rM_st rM_undone rM_kept iM_undos iM_images rM_fresher iM_fresherSize iM_scale iM_night rM_heardRow rM_cutRow iM_breaths iM_cutMany iM_allBreaths rM_trial rM_words iM_fewestBreaths iM_orderMany iM_orderSum iM_leastOrder rM_often iM_setMany iM_someOf iM_allOf iM_allWeight iM_enoughWeight iM_worthSum iM_firstRest iM_leastDrawn 2 iM_at b_iM_taped b_iM_size b_iM_end b_iM_nameSize b_x_5891 b_iM_hasCourt b_iM_undos b_iM_images b_iM_scale b_iM_breaths b_iM_cutMany r_T) (cwV 2 hts (wd_V wd_430 wd_431 wd_432 wd_5 (wd_c wd_433)) rfl rfl rfl dv_yX7_wrong_2 ⟨Nat.le_of_ble_eq_true rfl, Nat.le_of_ble_eq_true rfl⟩) ⟨Pw.fb, recvX7 hK hP (q0 := 0) rfl, fun U hU hW => Pw.to (hP.ms _ hMs) (hD.ms _ hMs) (hK.ms [false, false, false, false] rfl) hE hS hFc hU hW⟩ rfl rfl hl.1 rfl (lv_room (Nat.le_of_ble_eq_true rfl)) dX7_unsureLine_50 ⟨Nat.le_of_ble_eq_true rfl, Nat.le_of_ble_eq_true rfl⟩) hS (fun q _ h => hFc q h) hFc (fun u t H locs ht hvm hw hB hz1 hk1 hS => ?_)
        refine ex_3_3 hB (fun x_5966 x_5967 x_5968 b_x_5968 e_x_5966_0 e_x_5966_1 hB => ?_)
        obtain ⟨hP, hD⟩ := Bw.goN (ws' := [(oc7 oM iM_thrown rM_tape iM_taped iM_size iM_at iM_end iM_token iM_whole iM_nameSize x_5966 x_5967 iM_trouble rM_letters x_5968 iM_hasCourt rM_r rM_fresh rM_told rM_read rM_st rM_undone rM_kept iM_undos iM_images rM_fresher iM_fresherSize iM_scale iM_night rM_heardRow rM_cutRow iM_breaths iM_cutMany iM_allBreaths rM_trial rM_words iM_fewestBreaths iM_orderMany iM_orderSum iM_leastOrder rM_often iM_setMany iM_someOf iM_allOf iM_allWeight iM_enoughWeight iM_worthSum iM_firstRest iM_leastDrawn), (arI rM_tape kM_tape 900 fM_tape), (arI rM_letters kM_letters 8 fM_letters), (arI rM_fresh kM_fresh 287 fM_fresh), (arI rM_read kM_read 90 fM_read)]) hB rfl ht hP hD _ hMs hk1 hFc rfl
        clear hz1 hk1 hvm ht hB hMs
        have hG := hG.trans (un3_eq e_x_5966_1)
        refine lv_iconst (v := 0) hx hb dX7_unsureLine_53 (by decide) ?_
        refine lv_istore_n (lv' := [(3, .int 0), (2, .int x_5892), (1, .int x_5888), (0, .ref oM)]) hx hb dX7_unsureLine_54 rfl hl (by decide) rfl (fun ls hl => ?_)
        have hl := lv_sub hl (l' := [(3, .int 0), (2, .int x_5892), (1, .int x_5888), (0, .ref oM)]) [0, 1, 2, 3] rfl
        have key_n_5973 : ∀ (n_5973 : Nat) (z_5969 : Int32) (z_5970 : Int32) (z_5971 : Int32) (z_5972 : Int32) (H : Heap) (locs : List Loc) (ls : Array Slot), (0 ≤ z_5970.toInt ∧ z_5970.toInt ≤ 1) → (0 ≤ z_5969.toInt ∧ z_5969.toInt ≤ 4) → (x_5968.toInt ≤ z_5970.toInt) → (4 - z_5969.toInt).toNat < n_5973 → (PX7_unsureLine fM_tape iM_size iM_at iM_end iM_token iM_whole iM_nameSize iM_fault iM_place fM_letters iM_failed fM_fresh = HX7_unsureLine_1 fM_tape iM_size iM_at iM_end iM_token iM_whole iM_nameSize fM_letters fM_fresh n_5973 z_5969 z_5970 z_5971 z_5972) → va_P (dC, dI) vwCl [(oc7 oM iM_thrown rM_tape iM_taped iM_size iM_at iM_end iM_token iM_whole iM_nameSize z_5971 z_5972 iM_trouble rM_letters z_5970 iM_hasCourt rM_r rM_fresh rM_told rM_read rM_st rM_undone rM_kept iM_undos iM_images rM_fresher iM_fresherSize iM_scale iM_night rM_heardRow rM_cutRow iM_breaths iM_cutMany iM_allBreaths rM_trial rM_words iM_fewestBreaths iM_orderMany iM_orderSum iM_leastOrder rM_often iM_setMany iM_someOf iM_allOf iM_allWeight iM_enoughWeight iM_worthSum iM_firstRest iM_leastDrawn), (arI rM_tape kM_tape 900 fM_tape), (arI rM_letters kM_letters 8 fM_letters), (arI rM_fresh kM_fresh 287 fM_fresh), (arI rM_read kM_read 90 fM_read)] H → va_D A [(oc7 oM iM_thrown rM_tape iM_taped iM_size iM_at iM_end iM_token iM_whole iM_nameSize z_5971 z_5972 iM_trouble rM_letters z_5970 iM_hasCourt rM_r rM_fresh rM_told rM_read rM_st rM_undone rM_kept iM_undos iM_images rM_fresher iM_fresherSize iM_scale iM_night rM_heardRow rM_cutRow iM_breaths iM_cutMany iM_allBreaths rM_trial rM_words iM_fewestBreaths iM_orderMany iM_orderSum iM_leastOrder rM_often iM_setMany iM_someOf iM_allOf iM_allWeight iM_enoughWeight iM_worthSum iM_firstRest iM_leastDrawn), (arI rM_tape kM_tape 900 fM_tape), (arI rM_letters kM_letters 8 fM_letters), (arI rM_fresh kM_fresh 287 fM_fresh), (arI rM_read kM_read 90 fM_read)] → va_S A s.heap H locs → lv_has ls 4 [(3, .int z_5969), (2, .int x_5892), (1, .int x_5888), (0, .ref oM)] → W p l e (headSpec (Cond.code yX7_unsureLine cX7_unsureLine 4 none :: wG) ({ frames := 7, cells := 0, slots := 0, locals := 175 })).room s m ([.ref oM] : List Value).toArray below meth c H locs 0 0 (MQ below (va_Qv (fun (_ : Nat) => True) (fun (_ : Nat) (t : State) => ∃ (niM_at : Int32) (niM_end : Int32) (niM_token : Int32) (niM_whole : Int32) (niM_nameSize : Int32) (niM_fault : Int32) (niM_place : Int32) (niM_failed : Int32) (nfM_letters : Nat → Int32) (nfM_fresh : Nat → Int32), (0 ≤ niM_end.toInt ∧ niM_end.toInt ≤ 900) ∧ (0 ≤ niM_nameSize.toInt ∧ niM_nameSize.toInt ≤ 900) ∧ (0 ≤ niM_failed.toInt ∧ niM_failed.toInt ≤ 1) ∧ (iM_end.toInt ≤ niM_end.toInt) ∧ (ImpP (niM_token.toInt = 2) (niM_nameSize.toInt ≤ 8)) ∧ (iM_failed.toInt ≤ niM_failed.toInt) ∧ (ImpP (niM_failed.toInt ≤ 0 ∧ niM_token.toInt = 59 ) (iM_end.toInt + 1 ≤ niM_end.toInt)) ∧ (POk nfM_fresh fM_read) ∧ (PX7_unsureLine fM_tape iM_size iM_at iM_end iM_token iM_whole iM_nameSize iM_fault iM_place fM_letters iM_failed fM_fresh = (niM_at, niM_end, niM_token, niM_whole, niM_nameSize, niM_fault, niM_place, niM_failed, nfM_letters, nfM_fresh)) ∧ Bw dC dI A [(oc7 oM iM_thrown rM_tape iM_taped iM_size niM_at niM_end niM_token niM_whole niM_nameSize niM_fault niM_place iM_trouble rM_letters niM_failed iM_hasCourt rM_r rM_fresh rM_told rM_read rM_st rM_undone rM_kept iM_undos iM_images rM_fresher iM_fresherSize iM_scale iM_night rM_heardRow rM_cutRow iM_breaths iM_cutMany iM_allBreaths rM_trial rM_words iM_fewestBreaths iM_orderMany iM_orderSum iM_leastOrder rM_often iM_setMany iM_someOf iM_allOf iM_allWeight iM_enoughWeight iM_worthSum iM_firstRest iM_leastDrawn), (arI rM_tape kM_tape 900 fM_tape), (arI rM_letters kM_letters 8 nfM_letters), (arI rM_fresh kM_fresh 287 nfM_fresh), (arI rM_read kM_read 90 fM_read)] [(kM_tape, .int), (kM_letters, .int), (kM_fresh, .int), (kM_read, .int)] t) A) ([.ref oM] : List Value).toArray s 0 0 A) (F0 m 55 ls []) := by
          intro n_5973
          induction n_5973 with
          | zero => intro z_5969 z_5970 z_5971 z_5972 H locs ls b_z_5970 hi0_n_5973 hi1_n_5973 hm; exact absurd hm (Nat.not_lt_zero _)
          | succ n_5973 ih_n_5973 =>
            intro z_5969 z_5970 z_5971 z_5972 H locs ls b_z_5970 hi0_n_5973 hi1_n_5973 hm_n_5973 hG hP hD hS hl
            have hG := hG.trans (HX7_unsureLine_1_eq _ _ _ _ _ _ _ _ _ _ _ _ _ _)
            refine lv_iload_n hx hb dX7_unsureLine_55 rfl (lv_at hl 0 rfl) ?_
            refine lv_aload_n hx hb dX7_unsureLine_56 rfl (lv_at hl 3 rfl) ?_
            refine va_get (D := (dC, dI)) (ci := 7) (v := .ref rM_fresh) (C := RX7) (T := TX7) (N := 48) hx hb hts inX7 hown hK hP 0 rfl rfl 16 (by decide) (hts _ wd_156) (fun _ h9 => h9) rfl dX7_unsureLine_57 ?_
            refine lv_iconst (v := 3) hx hb dX7_unsureLine_60 (by decide) ?_
            refine va_iald hx hb hK hP 3 2 rfl rfl (by unfold vp_in; decide) dX7_unsureLine_61 ?_
            refine lv_topi (fun x_5974 ex_5974 => ?_)
            have hG := hG.trans (lt_eq ex_5974)
            have cx_5974 : (fM_fresh 3).toInt = x_5974.toInt := congrArg Int32.toInt (show fM_fresh 3 = x_5974 from ex_5974.symm)
            refine lv_icmp_ge (tgt := 102) hx hb dX7_unsureLine_62 (by decide) (fun c_5975 => ?_) (fun c_5975 => ?_)
            · skip
              have hG := hG.trans (if_pos c_5975)
              have gc_5975 := ti_le c_5975 rfl rfl
              refine lv_aload_n hx hb dX7_unsureLine_102 rfl (lv_at hl 3 rfl) ?_
              have hMs := ml_of hD [true, true, true, false, false] (wc := [(oc7 oM iM_thrown rM_tape iM_taped iM_size iM_at iM_end iM_token iM_whole iM_nameSize z_5971 z_5972 iM_trouble rM_letters z_5970 iM_hasCourt rM_r rM_fresh rM_told rM_read rM_st rM_undone rM_kept iM_undos iM_images rM_fresher iM_fresherSize iM_scale iM_night rM_heardRow rM_cutRow iM_breaths iM_cutMany iM_allBreaths rM_trial rM_words iM_fewestBreaths iM_orderMany iM_orderSum iM_leastOrder rM_often iM_setMany iM_someOf iM_allOf iM_allWeight iM_enoughWeight iM_worthSum iM_firstRest iM_leastDrawn), (arI rM_tape kM_tape 900 fM_tape), (arI rM_letters kM_letters 8 fM_letters)]) rfl
              have hFc := va_freeM hD hS hA _ hMs
              refine va_callv (va_runV (As := []) (rest := []) ⟨hx, hb, hml, hown, hts⟩ (tX7_pass l dC dI _ oM iM_thrown rM_tape fM_tape kM_tape iM_taped iM_size iM_at iM_end iM_token iM_whole iM_nameSize z_5971 z_5972 iM_trouble rM_letters fM_letters kM_letters z_5970 iM_hasCourt rM_r rM_fresh rM_told rM_read rM_st rM_undone rM_kept iM_undos iM_images rM_fresher iM_fresherSize iM_scale iM_night rM_heardRow rM_cutRow iM_breaths iM_cutMany iM_allBreaths rM_trial rM_words iM_fewestBreaths iM_orderMany iM_orderSum iM_leastOrder rM_often iM_setMany iM_someOf iM_allOf iM_allWeight iM_enoughWeight iM_worthSum iM_firstRest iM_leastDrawn b_iM_taped b_iM_size b_iM_end b_iM_nameSize b_z_5970 b_iM_hasCourt b_iM_undos b_iM_images b_iM_scale b_iM_breaths b_iM_cutMany r_T) (cwV 0 hts (wd_V wd_454 wd_455 wd_456 wd_5 (wd_c wd_457)) rfl rfl rfl dv_yX7_pass_0 ⟨Nat.le_of_ble_eq_true rfl, Nat.le_of_ble_eq_true rfl⟩) ⟨Pw.fb, recvX7 hK hP (q0 := 0) rfl, fun U hU hW => Pw.to (hP.ms _ hMs) (hD.ms _ hMs) (hK.ms [true, true, false, false] rfl) hE hS hFc hU hW⟩ rfl rfl hl.1 rfl (lv_room (Nat.le_of_ble_eq_true rfl)) dX7_unsureLine_103 ⟨Nat.le_of_ble_eq_true rfl, Nat.le_of_ble_eq_true rfl⟩) hS (fun q _ h => hFc q h) hFc (fun u t H locs ht hvm hw hB hz1 hk1 hS => ?_)
              refine ex_6_6 hB (fun x_5976 x_5977 x_5978 x_5979 x_5980 f_5981 b_x_5977 b_x_5980 e_x_5976_0 e_x_5976_1 e_x_5976_2 e_x_5976_3 hB => ?_)
              obtain ⟨hP, hD⟩ := Bw.goN (ws' := [(oc7 oM iM_thrown rM_tape iM_taped iM_size x_5976 x_5977 x_5978 x_5979 x_5980 z_5971 z_5972 iM_trouble rM_letters z_5970 iM_hasCourt rM_r rM_fresh rM_told rM_read rM_st rM_undone rM_kept iM_undos iM_images rM_fresher iM_fresherSize iM_scale iM_night rM_heardRow rM_cutRow iM_breaths iM_cutMany iM_allBreaths rM_trial rM_words iM_fewestBreaths iM_orderMany iM_orderSum iM_leastOrder rM_often iM_setMany iM_someOf iM_allOf iM_allWeight iM_enoughWeight iM_worthSum iM_firstRest iM_leastDrawn), (arI rM_tape kM_tape 900 fM_tape), (arI rM_letters kM_letters 8 f_5981), (arI rM_fresh kM_fresh 287 fM_fresh), (arI rM_read kM_read 90 fM_read)]) hB rfl ht hP hD _ hMs hk1 hFc rfl
              clear hz1 hk1 hvm ht hB hMs
              have hG := hG.trans (un6_eq e_x_5976_3)
              clear r_T
              refine lv_aload_n hx hb dX7_unsureLine_106 rfl (lv_at hl 3 rfl) ?_
              refine lv_iconst (v := 0) hx hb dX7_unsureLine_107 (by decide) ?_
              refine lv_bipush (v := 99) hx hb dX7_unsureLine_108 (by decide) ?_
              have hMs := ml_of hD [true, true, true, false, false] (wc := [(oc7 oM iM_thrown rM_tape iM_taped iM_size x_5976 x_5977 x_5978 x_5979 x_5980 z_5971 z_5972 iM_trouble rM_letters z_5970 iM_hasCourt rM_r rM_fresh rM_told rM_read rM_st rM_undone rM_kept iM_undos iM_images rM_fresher iM_fresherSize iM_scale iM_night rM_heardRow rM_cutRow iM_breaths iM_cutMany iM_allBreaths rM_trial rM_words iM_fewestBreaths iM_orderMany iM_orderSum iM_leastOrder rM_often iM_setMany iM_someOf iM_allOf iM_allWeight iM_enoughWeight iM_worthSum iM_firstRest iM_leastDrawn), (arI rM_tape kM_tape 900 fM_tape), (arI rM_letters kM_letters 8 f_5981)]) rfl
              have hFc := va_freeM hD hS hA _ hMs
              refine va_calli (va_runV (As := [.int 0, .int 99]) (rest := []) ⟨hx, hb, hml, hown, hts⟩ (tX7_number l dC dI _ oM iM_thrown rM_tape fM_tape kM_tape iM_taped iM_size x_5976 x_5977 x_5978 x_5979 x_5980 z_5971 z_5972 iM_trouble rM_letters f_5981 kM_letters z_5970 iM_hasCourt rM_r rM_fresh rM_told rM_read rM_st rM_undone rM_kept iM_undos iM_images rM_fresher iM_fresherSize iM_scale iM_night rM_heardRow rM_cutRow iM_breaths iM_cutMany iM_allBreaths rM_trial rM_words iM_fewestBreaths iM_orderMany iM_orderSum iM_leastOrder rM_often iM_setMany iM_someOf iM_allOf iM_allWeight iM_enoughWeight iM_worthSum iM_firstRest iM_leastDrawn 0 99 b_iM_taped b_iM_size b_x_5977 b_x_5980 b_z_5970 b_iM_hasCourt b_iM_undos b_iM_images b_iM_scale b_iM_breaths b_iM_cutMany e_x_5976_1 (om_b0b40937 kc_0 kc_99)) (cwV 2 hts (wd_V wd_446 wd_447 wd_448 wd_5 (wd_c wd_449)) rfl rfl rfl dv_yX7_number_2 ⟨Nat.le_of_ble_eq_true rfl, Nat.le_of_ble_eq_true rfl⟩) ⟨Pw.fb, recvX7 hK hP (q0 := 0) rfl, fun U hU hW => Pw.to (hP.ms _ hMs) (hD.ms _ hMs) (hK.ms [true, true, false, false] rfl) hE hS hFc hU hW⟩ rfl rfl hl.1 rfl (lv_room (Nat.le_of_ble_eq_true rfl)) dX7_unsureLine_110 ⟨Nat.le_of_ble_eq_true rfl, Nat.le_of_ble_eq_true rfl⟩) hS (fun q _ h => hFc q h) hFc (fun r u t H locs ht hvm hw hB hz1 hk1 hS => ?_)
              have hru9 := hw.2
              have hw := hw.1
              refine ex_9_8 hB (fun x_5982 x_5983 x_5984 x_5985 x_5986 x_5987 x_5988 x_5989 f_5990 b_x_5983 b_x_5986 b_x_5989 e_x_5982_0 e_x_5982_1 e_x_5982_2 e_x_5982_3 e_x_5982_4 hB => ?_)
              obtain ⟨hP, hD⟩ := Bw.goN (ws' := [(oc7 oM iM_thrown rM_tape iM_taped iM_size x_5982 x_5983 x_5984 x_5985 x_5986 x_5987 x_5988 iM_trouble rM_letters x_5989 iM_hasCourt rM_r rM_fresh rM_told rM_read rM_st rM_undone rM_kept iM_undos iM_images rM_fresher iM_fresherSize iM_scale iM_night rM_heardRow rM_cutRow iM_breaths iM_cutMany iM_allBreaths rM_trial rM_words iM_fewestBreaths iM_orderMany iM_orderSum iM_leastOrder rM_often iM_setMany iM_someOf iM_allOf iM_allWeight iM_enoughWeight iM_worthSum iM_firstRest iM_leastDrawn), (arI rM_tape kM_tape 900 fM_tape), (arI rM_letters kM_letters 8 f_5990), (arI rM_fresh kM_fresh 287 fM_fresh), (arI rM_read kM_read 90 fM_read)]) hB rfl ht hP hD _ hMs hk1 hFc rfl
              clear hz1 hk1 hvm ht hB hMs
              rw [← hru9] at e_x_5982_4
              obtain ⟨x_5991, rfl⟩ : ∃ z, z = r := ⟨_, rfl⟩
              have hG := hG.trans (un10_eq e_x_5982_4)
              have lx_5991 := hw.2
              have kl_0 := kc_0
              have kl_99 := kc_99
              clear e_x_5976_1
              clear e_x_5976_2
              refine lv_istore_n (lv' := [(3, .int x_5991), (2, .int x_5892), (1, .int x_5888), (0, .ref oM)]) hx hb dX7_unsureLine_113 rfl hl (by decide) rfl (fun ls hl => ?_)
              refine lv_aload_n hx hb dX7_unsureLine_114 rfl (lv_at hl 3 rfl) ?_
              refine va_get (D := (dC, dI)) (ci := 7) (v := .int x_5989) (C := RX7) (T := TX7) (N := 48) hx hb hts inX7 hown hK hP 0 rfl rfl 13 (by decide) (hts _ wd_380) (fun _ h9 => h9) rfl dX7_unsureLine_115 ?_
              refine lv_if_eq (tgt := 122) hx hb dX7_unsureLine_118 (by decide) (fun c_5992 => ?_) (fun c_5992 => ?_)
              · skip
                have hG := hG.trans (if_pos c_5992)
                have gc_5992 := ti_eq c_5992 rfl kc_0
                exact ((om_5c6c3440 e_x_5966_0 hi1_n_5973 e_x_5982_2 gc_5992)).elim
              · skip
                have hG := hG.trans (if_neg c_5992)
                have gc_5992 := ti_ne c_5992 rfl kc_0
                replace gc_5992 : (-1) * x_5989.toInt + 1 ≤ 0 := om_e3003f79 gc_5992 b_x_5989.1
                exact wq_v hx hb hr 0 trivial (fun t ht hW => ⟨x_5982, x_5983, x_5984, x_5985, x_5986, x_5987, x_5988, x_5989, f_5990, fM_fresh, b_x_5983, b_x_5986, b_x_5989, (om_9348f5ae e_x_5976_0 e_x_5982_0), e_x_5982_1, (om_1fc3dec6 gc_5884 b_x_5989.1), (fun h9 => False.elim (om_a5fe015d gc_5992 h9.1)), r_P, hG, Bw.to hP hD hK ht hW⟩) hS dX7_unsureLine_121 hlocks
            · skip
              have hG := hG.trans (if_neg c_5975)
              have gc_5975 := ti_nle c_5975 rfl rfl
              refine lv_aload_n hx hb dX7_unsureLine_65 rfl (lv_at hl 3 rfl) ?_
              refine va_get (D := (dC, dI)) (ci := 7) (v := .int z_5970) (C := RX7) (T := TX7) (N := 48) hx hb hts inX7 hown hK hP 0 rfl rfl 13 (by decide) (hts _ wd_380) (fun _ h9 => h9) rfl dX7_unsureLine_66 ?_
              refine lv_if_ne (tgt := 96) hx hb dX7_unsureLine_69 (by decide) (fun c_5993 => ?_) (fun c_5993 => ?_)
              · skip
                have hG := hG.trans (if_neg c_5993)
                have gc_5993 := ti_ne c_5993 rfl kc_0
                replace gc_5993 : (-1) * z_5970.toInt + 1 ≤ 0 := om_e3003f79 gc_5993 b_z_5970.1
                obtain ⟨x_5994, ex_5994⟩ : ∃ z : Int32, z = z_5969 + Int32.ofInt 1 := ⟨_, rfl⟩
                have hG := hG.trans (lt_eq ex_5994)
                have vx_5994 : x_5994.toInt = z_5969.toInt + 1 := ti_add (y := 1) ex_5994 rfl kc_1 (om_4e4fce7e hi0_n_5973.1) (om_bae2951a hi0_n_5973.2)
                refine lv_iinc (v := x_5994) (lv' := [(3, .int x_5994), (2, .int x_5892), (1, .int x_5888), (0, .ref oM)]) hx hb dX7_unsureLine_96 hl (k := 0) rfl ex_5994.symm (by decide) rfl (fun ls hl => ?_)
                refine lv_goto (tgt := 55) hx hb dX7_unsureLine_99 (by decide) ?_
                exact ih_n_5973 x_5994 z_5970 z_5971 z_5972 _ _ _ b_z_5970 ⟨(om_83b90de5 hi0_n_5973.1 vx_5994), (om_8267bec5 pl_fM_fresh.2.2.2.1.2 cx_5974 gc_5975 vx_5994)⟩ hi1_n_5973 (ms_lt hm_n_5973 (om_ed22490e vx_5994) (om_e4be4046 pl_fM_fresh.2.2.2.1.2 cx_5974 gc_5975)) hG hP hD hS (lv_sub hl [0, 1, 2, 3] rfl)
              · skip
                have hG := hG.trans (if_pos c_5993)
                have gc_5993 := ti_eq c_5993 rfl kc_0
                exact ((om_2f02dee4 e_x_5966_0 hi1_n_5973 gc_5993)).elim
        exact key_n_5973 (((4 - (0 : Int32).toInt).toNat) + 1) 0 x_5968 x_5966 x_5967 _ _ _ b_x_5968 ⟨(om_b1de7dbe kc_0), (om_bebe011a kc_0)⟩ om_1cb5f934 (Nat.lt_add_one _) hG hP hD hS hl
  · skip
    have hG := hG.trans (if_neg c_5884)
    have gc_5884 := ti_ne c_5884 rfl kc_0
    replace gc_5884 : (-1) * iM_failed.toInt + 1 ≤ 0 := om_e3003f79 gc_5884 b_iM_failed.1
    clear hul
    exact wq_v hx hb hr 0 trivial (fun t ht hW => ⟨iM_at, iM_end, iM_token, iM_whole, iM_nameSize, iM_fault, iM_place, iM_failed, fM_letters, fM_fresh, ⟨b_iM_end.1, b_iM_end.2⟩, ⟨b_iM_nameSize.1, b_iM_nameSize.2⟩, ⟨b_iM_failed.1, b_iM_failed.2⟩, om_1cb5f934, r_T, om_1cb5f934, (fun h9 => False.elim (om_a5fe015d gc_5884 h9.1)), r_P, hG, Bw.to hP hD hK ht hW⟩) hS dX7_unsureLine_7 hlocks
