set_option maxHeartbeats 4000000 in
set_option maxRecDepth 100000 in
theorem tX7_readLine (l : Launch) (dC : Nat → ClassId) (dI : Nat → Nat → Nat) (sz : Nat) (oM : Nat) (iM_thrown : Int32) (rM_tape : Nat) (fM_tape : Nat → Int32) (kM_tape : ClassId) (iM_taped : Int32) (iM_size : Int32) (iM_at : Int32) (iM_end : Int32) (iM_token : Int32) (iM_whole : Int32) (iM_nameSize : Int32) (iM_fault : Int32) (iM_place : Int32) (iM_trouble : Int32) (rM_letters : Nat) (fM_letters : Nat → Int32) (kM_letters : ClassId) (iM_failed : Int32) (iM_hasCourt : Int32) (rM_r : Nat) (rM_fresh : Nat) (fM_fresh : Nat → Int32) (kM_fresh : ClassId) (rM_told : Nat) (rM_read : Nat) (fM_read : Nat → Int32) (kM_read : ClassId) (rM_st : Nat) (rM_undone : Nat) (rM_kept : Nat) (iM_undos : Int32) (iM_images : Int32) (rM_fresher : Nat) (fM_fresher : Nat → Int32) (kM_fresher : ClassId) (iM_fresherSize : Int32) (iM_scale : Int32) (iM_night : Int32) (rM_heardRow : Nat) (rM_cutRow : Nat) (iM_breaths : Int32) (iM_cutMany : Int32) (iM_allBreaths : Int32) (rM_trial : Nat) (rM_words : Nat) (iM_fewestBreaths : Int32) (iM_orderMany : Int32) (iM_orderSum : Int32) (iM_leastOrder : Int32) (rM_often : Nat) (iM_setMany : Int32) (iM_someOf : Int32) (iM_allOf : Int32) (iM_allWeight : Int64) (iM_enoughWeight : Int64) (iM_worthSum : Int64) (iM_firstRest : Int32) (iM_leastDrawn : Int32) (b_iM_taped : 0 ≤ iM_taped.toInt ∧ iM_taped.toInt ≤ 900) (b_iM_size : 0 ≤ iM_size.toInt ∧ iM_size.toInt ≤ 900) (b_iM_end : 0 ≤ iM_end.toInt ∧ iM_end.toInt ≤ 900) (b_iM_nameSize : 0 ≤ iM_nameSize.toInt ∧ iM_nameSize.toInt ≤ 900) (b_iM_failed : 0 ≤ iM_failed.toInt ∧ iM_failed.toInt ≤ 1) (b_iM_hasCourt : 0 ≤ iM_hasCourt.toInt ∧ iM_hasCourt.toInt ≤ 1) (b_iM_undos : 0 ≤ iM_undos.toInt ∧ iM_undos.toInt ≤ 16) (b_iM_images : 0 ≤ iM_images.toInt ∧ iM_images.toInt ≤ 3) (b_iM_scale : 1 ≤ iM_scale.toInt ∧ iM_scale.toInt ≤ 1296) (b_iM_breaths : 0 ≤ iM_breaths.toInt ∧ iM_breaths.toInt ≤ 399) (b_iM_cutMany : 0 ≤ iM_cutMany.toInt ∧ iM_cutMany.toInt ≤ 399) (r_T : ImpP (iM_token.toInt = 2) (iM_nameSize.toInt ≤ 8)) (r_P : POk fM_fresh fM_read)  : Met l yX7_readLine (Cond.code yX7_readLine cX7_readLine 1 none :: wG) ({ frames := 9, cells := 0, slots := 0, locals := 220 }) (va_Pc [.ref oM] (Pw dC dI sz [(oc7 oM iM_thrown rM_tape iM_taped iM_size iM_at iM_end iM_token iM_whole iM_nameSize iM_fault iM_place iM_trouble rM_letters iM_failed iM_hasCourt rM_r rM_fresh rM_told rM_read rM_st rM_undone rM_kept iM_undos iM_images rM_fresher iM_fresherSize iM_scale iM_night rM_heardRow rM_cutRow iM_breaths iM_cutMany iM_allBreaths rM_trial rM_words iM_fewestBreaths iM_orderMany iM_orderSum iM_leastOrder rM_often iM_setMany iM_someOf iM_allOf iM_allWeight iM_enoughWeight iM_worthSum iM_firstRest iM_leastDrawn), (arI rM_tape kM_tape 900 fM_tape), (arI rM_letters kM_letters 8 fM_letters), (arI rM_fresh kM_fresh 287 fM_fresh), (arI rM_read kM_read 90 fM_read), (arI rM_fresher kM_fresher 8 fM_fresher)] [(kM_tape, .int), (kM_letters, .int), (kM_fresh, .int), (kM_read, .int), (kM_fresher, .int)])) (va_Qv (fun (_ : Nat) => True) (fun (_ : Nat) (t : State) => ∃ (niM_at : Int32) (niM_end : Int32) (niM_token : Int32) (niM_whole : Int32) (niM_nameSize : Int32) (niM_fault : Int32) (niM_place : Int32) (niM_failed : Int32) (niM_fresherSize : Int32) (nfM_letters : Nat → Int32) (nfM_fresh : Nat → Int32) (nfM_read : Nat → Int32) (nfM_fresher : Nat → Int32), (0 ≤ niM_end.toInt ∧ niM_end.toInt ≤ 900) ∧ (0 ≤ niM_nameSize.toInt ∧ niM_nameSize.toInt ≤ 900) ∧ (0 ≤ niM_failed.toInt ∧ niM_failed.toInt ≤ 1) ∧ (iM_end.toInt ≤ niM_end.toInt) ∧ (ImpP (niM_token.toInt = 2) (niM_nameSize.toInt ≤ 8)) ∧ (iM_failed.toInt ≤ niM_failed.toInt) ∧ (ImpP (niM_failed.toInt ≤ 0 ∧ niM_token.toInt = 59 ) (iM_end.toInt + 1 ≤ niM_end.toInt)) ∧ (POk nfM_fresh nfM_read) ∧ (PX7_readLine fM_tape iM_size iM_at iM_end iM_token iM_whole iM_nameSize iM_fault iM_place fM_letters iM_failed fM_fresh fM_read fM_fresher iM_fresherSize = (niM_at, niM_end, niM_token, niM_whole, niM_nameSize, niM_fault, niM_place, niM_failed, niM_fresherSize, nfM_letters, nfM_fresh, nfM_read, nfM_fresher)) ∧ Bw dC dI (va_A [(oc7 oM iM_thrown rM_tape iM_taped iM_size iM_at iM_end iM_token iM_whole iM_nameSize iM_fault iM_place iM_trouble rM_letters iM_failed iM_hasCourt rM_r rM_fresh rM_told rM_read rM_st rM_undone rM_kept iM_undos iM_images rM_fresher iM_fresherSize iM_scale iM_night rM_heardRow rM_cutRow iM_breaths iM_cutMany iM_allBreaths rM_trial rM_words iM_fewestBreaths iM_orderMany iM_orderSum iM_leastOrder rM_often iM_setMany iM_someOf iM_allOf iM_allWeight iM_enoughWeight iM_worthSum iM_firstRest iM_leastDrawn), (arI rM_tape kM_tape 900 fM_tape), (arI rM_letters kM_letters 8 fM_letters), (arI rM_fresh kM_fresh 287 fM_fresh), (arI rM_read kM_read 90 fM_read), (arI rM_fresher kM_fresher 8 fM_fresher)] sz) [(oc7 oM iM_thrown rM_tape iM_taped iM_size niM_at niM_end niM_token niM_whole niM_nameSize niM_fault niM_place iM_trouble rM_letters niM_failed iM_hasCourt rM_r rM_fresh rM_told rM_read rM_st rM_undone rM_kept iM_undos iM_images rM_fresher niM_fresherSize iM_scale iM_night rM_heardRow rM_cutRow iM_breaths iM_cutMany iM_allBreaths rM_trial rM_words iM_fewestBreaths iM_orderMany iM_orderSum iM_leastOrder rM_often iM_setMany iM_someOf iM_allOf iM_allWeight iM_enoughWeight iM_worthSum iM_firstRest iM_leastDrawn), (arI rM_tape kM_tape 900 fM_tape), (arI rM_letters kM_letters 8 nfM_letters), (arI rM_fresh kM_fresh 287 nfM_fresh), (arI rM_read kM_read 90 nfM_read), (arI rM_fresher kM_fresher 8 nfM_fresher)] [(kM_tape, .int), (kM_letters, .int), (kM_fresh, .int), (kM_read, .int), (kM_fresher, .int)] t) (va_A [(oc7 oM iM_thrown rM_tape iM_taped iM_size iM_at iM_end iM_token iM_whole iM_nameSize iM_fault iM_place iM_trouble rM_letters iM_failed iM_hasCourt rM_r rM_fresh rM_told rM_read rM_st rM_undone rM_kept iM_undos iM_images rM_fresher iM_fresherSize iM_scale iM_night rM_heardRow rM_cutRow iM_breaths iM_cutMany iM_allBreaths rM_trial rM_words iM_fewestBreaths iM_orderMany iM_orderSum iM_leastOrder rM_often iM_setMany iM_someOf iM_allOf iM_allWeight iM_enoughWeight iM_worthSum iM_firstRest iM_leastDrawn), (arI rM_tape kM_tape 900 fM_tape), (arI rM_letters kM_letters 8 fM_letters), (arI rM_fresh kM_fresh 287 fM_fresh), (arI rM_read kM_read 90 fM_read), (arI rM_fresher kM_fresher 8 fM_fresher)] sz)) 0 0 (va_A [(oc7 oM iM_thrown rM_tape iM_taped iM_size iM_at iM_end iM_token iM_whole iM_nameSize iM_fault iM_place iM_trouble rM_letters iM_failed iM_hasCourt rM_r rM_fresh rM_told rM_read rM_st rM_undone rM_kept iM_undos iM_images rM_fresher iM_fresherSize iM_scale iM_night rM_heardRow rM_cutRow iM_breaths iM_cutMany iM_allBreaths rM_trial rM_words iM_fewestBreaths iM_orderMany iM_orderSum iM_leastOrder rM_often iM_setMany iM_someOf iM_allOf iM_allWeight iM_enoughWeight iM_worthSum iM_firstRest iM_leastDrawn), (arI rM_tape kM_tape 900 fM_tape), (arI rM_letters kM_letters 8 fM_letters), (arI rM_fresh kM_fresh 287 fM_fresh), (arI rM_read kM_read 90 fM_read), (arI rM_fresher kM_fresher 8 fM_fresher)] sz) := by
  refine Met.ofW (cc := cX7_readLine) (maxL := 1) (ret := none) pnX7 rfl ?_
  intro p e s m args below meth c s₁ B hml hv
  obtain ⟨rfl, hsz, hP, hK, hD0, hE⟩ := hv
  have hx := B.exec
  have hb := B.bytes
  have hr := B.returns
  have hts : ∀ w ∈ wG, w.before ([.ref oM] : List Value).toArray s = true := fun w h => atoms_spec (ws := Cond.code yX7_readLine cX7_readLine 1 none :: wG) B.pre w (List.mem_cons_of_mem _ h)
  have hown : s.vm.findClass RX7 = some m.cls := own_of B.named rfl
  have hlocks := B.notSynchronized
  subst hsz
  have hD := hD0.self (sz := s.heap.size)
  generalize hAe : va_A [(oc7 oM iM_thrown rM_tape iM_taped iM_size iM_at iM_end iM_token iM_whole iM_nameSize iM_fault iM_place iM_trouble rM_letters iM_failed iM_hasCourt rM_r rM_fresh rM_told rM_read rM_st rM_undone rM_kept iM_undos iM_images rM_fresher iM_fresherSize iM_scale iM_night rM_heardRow rM_cutRow iM_breaths iM_cutMany iM_allBreaths rM_trial rM_words iM_fewestBreaths iM_orderMany iM_orderSum iM_leastOrder rM_often iM_setMany iM_someOf iM_allOf iM_allWeight iM_enoughWeight iM_worthSum iM_firstRest iM_leastDrawn), (arI rM_tape kM_tape 900 fM_tape), (arI rM_letters kM_letters 8 fM_letters), (arI rM_fresh kM_fresh 287 fM_fresh), (arI rM_read kM_read 90 fM_read), (arI rM_fresher kM_fresher 8 fM_fresher)] s.heap.size = A at hD hE ⊢
  have hA : ∀ q : Nat, s.heap.size ≤ q → A q := fun q h => by rw [← hAe]; exact Or.inr h
  have hS : va_S A s.heap s.heap [] := va_S.rf
  have hl := lv_entry ([.ref oM]) (n := 1) (Nat.le_of_ble_eq_true rfl)
  rw [lg_entry_eq]
  generalize (lg_sl ([.ref oM]) ++ List.replicate (1 - (lg_sl ([.ref oM])).length) Slot.unset).toArray = ls at hl ⊢
  have hl : lv_has ls 1 [(0, .ref oM)] := hl
  have hG := PX7_readLine_eq fM_tape iM_size iM_at iM_end iM_token iM_whole iM_nameSize iM_fault iM_place fM_letters iM_failed fM_fresh fM_read fM_fresher iM_fresherSize
  have pl_fM_fresh := r_P.lins
  refine lv_aload_n hx hb dX7_readLine_0 rfl (lv_at hl 0 rfl) ?_
  obtain ⟨sa_6619, vsa_6619, nsa_6619, fsa_6619, hnsa_6619, hnesa_6619, hfesa_6619, hRsa_6619, hSsa_6619⟩ := hE.2.2.1 (134, "court", [99, 111, 117, 114, 116]) (by decide)
  have hG := hG.trans (lt_eq hnesa_6619)
  have hG := hG.trans (lt_eq hfesa_6619)
  refine va_ldcS hx hb hown hRsa_6619 dX7_readLine_1 ?_
  have hMs := ml_of hD [true, false, true, false, false, false] (wc := [(oc7 oM iM_thrown rM_tape iM_taped iM_size iM_at iM_end iM_token iM_whole iM_nameSize iM_fault iM_place iM_trouble rM_letters iM_failed iM_hasCourt rM_r rM_fresh rM_told rM_read rM_st rM_undone rM_kept iM_undos iM_images rM_fresher iM_fresherSize iM_scale iM_night rM_heardRow rM_cutRow iM_breaths iM_cutMany iM_allBreaths rM_trial rM_words iM_fewestBreaths iM_orderMany iM_orderSum iM_leastOrder rM_often iM_setMany iM_someOf iM_allOf iM_allWeight iM_enoughWeight iM_worthSum iM_firstRest iM_leastDrawn), (arI rM_letters kM_letters 8 fM_letters)]) rfl
  have hFc := va_freeM hD hS hA _ hMs
  refine va_calli (va_runV (As := [.ref sa_6619]) (rest := []) ⟨hx, hb, hml, hown, hts⟩ (tX7_isWord l dC dI _ oM iM_thrown rM_tape iM_taped iM_size iM_at iM_end iM_token iM_whole iM_nameSize iM_fault iM_place iM_trouble rM_letters fM_letters kM_letters iM_failed iM_hasCourt rM_r rM_fresh rM_told rM_read rM_st rM_undone rM_kept iM_undos iM_images rM_fresher iM_fresherSize iM_scale iM_night rM_heardRow rM_cutRow iM_breaths iM_cutMany iM_allBreaths rM_trial rM_words iM_fewestBreaths iM_orderMany iM_orderSum iM_leastOrder rM_often iM_setMany iM_someOf iM_allOf iM_allWeight iM_enoughWeight iM_worthSum iM_firstRest iM_leastDrawn sa_6619 vsa_6619 nsa_6619 fsa_6619 b_iM_taped b_iM_size b_iM_end b_iM_nameSize b_iM_failed b_iM_hasCourt b_iM_undos b_iM_images b_iM_scale b_iM_breaths b_iM_cutMany r_T (Nat.le_trans (Nat.le_of_eq hnesa_6619) (by decide))) (cwV 1 hts (wd_V wd_420 wd_421 wd_422 wd_5 (wd_c wd_423)) rfl rfl rfl dv_yX7_isWord_1 ⟨Nat.le_of_ble_eq_true rfl, Nat.le_of_ble_eq_true rfl⟩) ⟨Pq.fb, recvX7 hK hP (q0 := 0) rfl, fun U hU hW => Pq.to (hP.ms _ hMs) (hD.ms _ hMs) (hK.ms [false, true, false, false, false] rfl) hSsa_6619 hE hS hFc hU hW⟩ rfl rfl hl.1 rfl (lv_room (Nat.le_of_ble_eq_true rfl)) dX7_readLine_3 ⟨Nat.le_of_ble_eq_true rfl, Nat.le_of_ble_eq_true rfl⟩) hS (fun q _ h => hFc q h) hFc (fun r u t H locs ht hvm hw hB hz1 hk1 hS => ?_)
  have hru9 := hw.2
  have hw := hw.1
  obtain ⟨hP, hD⟩ := Bw.goN (ws' := [(oc7 oM iM_thrown rM_tape iM_taped iM_size iM_at iM_end iM_token iM_whole iM_nameSize iM_fault iM_place iM_trouble rM_letters iM_failed iM_hasCourt rM_r rM_fresh rM_told rM_read rM_st rM_undone rM_kept iM_undos iM_images rM_fresher iM_fresherSize iM_scale iM_night rM_heardRow rM_cutRow iM_breaths iM_cutMany iM_allBreaths rM_trial rM_words iM_fewestBreaths iM_orderMany iM_orderSum iM_leastOrder rM_often iM_setMany iM_someOf iM_allOf iM_allWeight iM_enoughWeight iM_worthSum iM_firstRest iM_leastDrawn), (arI rM_tape kM_tape 900 fM_tape), (arI rM_letters kM_letters 8 fM_letters), (arI rM_fresh kM_fresh 287 fM_fresh), (arI rM_read kM_read 90 fM_read), (arI rM_fresher kM_fresher 8 fM_fresher)]) hB rfl ht hP hD _ hMs hk1 hFc rfl
  clear hz1 hk1 hvm ht hB hMs
  obtain ⟨x_6620, rfl⟩ : ∃ z, z = r := ⟨_, rfl⟩
  have hG := hG.trans (lt_eq hru9.symm)
  have bx_6620 := hw.1
  have dx_6620 := bz_tb bx_6620
  have lx_6620 := hw.2
  refine lv_if_eq (tgt := 16) hx hb dX7_readLine_6 (by decide) (fun c_6621 => ?_) (fun c_6621 => ?_)
  · skip
    have hG := hG.trans (if_pos c_6621)
    have gc_6621 := ti_eq c_6621 rfl kc_0
    clear lx_6620
    refine lv_aload_n hx hb dX7_readLine_16 rfl (lv_at hl 0 rfl) ?_
    obtain ⟨sa_6622, vsa_6622, nsa_6622, fsa_6622, hnsa_6622, hnesa_6622, hfesa_6622, hRsa_6622, hSsa_6622⟩ := hE.2.2.1 (136, "word", [119, 111, 114, 100]) (by decide)
    have hG := hG.trans (lt_eq hnesa_6622)
    have hG := hG.trans (lt_eq hfesa_6622)
    refine va_ldcS hx hb hown hRsa_6622 dX7_readLine_17 ?_
    refine lv_aload_n hx hb dX7_readLine_19 rfl (lv_at hl 0 rfl) ?_
    refine va_get (D := (dC, dI)) (ci := 7) (v := .ref rM_fresh) (C := RX7) (T := TX7) (N := 48) hx hb hts inX7 hown hK hP 0 rfl rfl 16 (by decide) (hts _ wd_156) (fun _ h9 => h9) rfl dX7_readLine_20 ?_
    refine lv_iconst (v := 2) hx hb dX7_readLine_23 (by decide) ?_
    refine va_iald hx hb hK hP 3 2 rfl rfl (by unfold vp_in; decide) dX7_readLine_24 ?_
    refine lv_topi (fun x_6623 ex_6623 => ?_)
    have hG := hG.trans (lt_eq ex_6623)
    have cx_6623 : (fM_fresh 2).toInt = x_6623.toInt := congrArg Int32.toInt (show fM_fresh 2 = x_6623 from ex_6623.symm)
    refine lv_bipush (v := 10) hx hb dX7_readLine_25 (by decide) ?_
    refine vz_jgeX hx hb dX7_readLine_27 dX7_readLine_30 dX7_readLine_31 dX7_readLine_34 (fun x_6624 ex_6624 b_x_6624 j_x_6624 => ?_)
    have hG := hG.trans (lt_eq ex_6624)
    have j_x_6624 : 1 ≤ x_6624.toInt → x_6623.toInt < 10 := fun h9 => by have h8 := j_x_6624 h9; rw [kc_10] at h8; exact h8
    have hMs := ml_of hD [true, true, true, true, true, false] (wc := [(oc7 oM iM_thrown rM_tape iM_taped iM_size iM_at iM_end iM_token iM_whole iM_nameSize iM_fault iM_place iM_trouble rM_letters iM_failed iM_hasCourt rM_r rM_fresh rM_told rM_read rM_st rM_undone rM_kept iM_undos iM_images rM_fresher iM_fresherSize iM_scale iM_night rM_heardRow rM_cutRow iM_breaths iM_cutMany iM_allBreaths rM_trial rM_words iM_fewestBreaths iM_orderMany iM_orderSum iM_leastOrder rM_often iM_setMany iM_someOf iM_allOf iM_allWeight iM_enoughWeight iM_worthSum iM_firstRest iM_leastDrawn), (arI rM_tape kM_tape 900 fM_tape), (arI rM_letters kM_letters 8 fM_letters), (arI rM_fresh kM_fresh 287 fM_fresh), (arI rM_read kM_read 90 fM_read)]) rfl
    have hFc := va_freeM hD hS hA _ hMs
    refine va_calli (va_runV (As := [.ref sa_6622, .int x_6624]) (rest := []) ⟨hx, hb, hml, hown, hts⟩ (tX7_begins l dC dI _ oM iM_thrown rM_tape fM_tape kM_tape iM_taped iM_size iM_at iM_end iM_token iM_whole iM_nameSize iM_fault iM_place iM_trouble rM_letters fM_letters kM_letters iM_failed iM_hasCourt rM_r rM_fresh fM_fresh kM_fresh rM_told rM_read fM_read kM_read rM_st rM_undone rM_kept iM_undos iM_images rM_fresher iM_fresherSize iM_scale iM_night rM_heardRow rM_cutRow iM_breaths iM_cutMany iM_allBreaths rM_trial rM_words iM_fewestBreaths iM_orderMany iM_orderSum iM_leastOrder rM_often iM_setMany iM_someOf iM_allOf iM_allWeight iM_enoughWeight iM_worthSum iM_firstRest iM_leastDrawn sa_6622 x_6624 vsa_6622 nsa_6622 fsa_6622 b_iM_taped b_iM_size b_iM_end b_iM_nameSize b_iM_failed b_iM_hasCourt b_iM_undos b_iM_images b_iM_scale b_iM_breaths b_iM_cutMany r_T r_P (Nat.le_trans (Nat.le_of_eq hnesa_6622) (by decide)) (by first | assumption | (have q0 := kc_0; have q1 := kc_1; first | exact ⟨by omega, by omega⟩ | omega) | decide | (intro h; exact absurd h (by decide)))) (cwV 2 hts (wd_V wd_450 wd_451 wd_452 wd_5 (wd_c wd_453)) rfl rfl rfl dv_yX7_begins_2 ⟨Nat.le_of_ble_eq_true rfl, Nat.le_of_ble_eq_true rfl⟩) ⟨Pq.fb, recvX7 hK hP (q0 := 0) rfl, fun U hU hW => Pq.to (hP.ms _ hMs) (hD.ms _ hMs) (hK.ms [true, true, true, true, false] rfl) hSsa_6622 hE hS hFc hU hW⟩ rfl rfl hl.1 rfl (lv_room (Nat.le_of_ble_eq_true rfl)) dX7_readLine_35 ⟨Nat.le_of_ble_eq_true rfl, Nat.le_of_ble_eq_true rfl⟩) hS (fun q _ h => hFc q h) hFc (fun r u t H locs ht hvm hw hB hz1 hk1 hS => ?_)
    have hru9 := hw.2
    have hw := hw.1
    refine ex_9_9 hB (fun x_6625 x_6626 x_6627 x_6628 x_6629 x_6630 x_6631 x_6632 f_6633 b_x_6626 b_x_6629 b_x_6632 e_x_6625_0 e_x_6625_1 e_x_6625_2 e_x_6625_3 e_x_6625_4 e_x_6625_5 hB => ?_)
    obtain ⟨hP, hD⟩ := Bw.goN (ws' := [(oc7 oM iM_thrown rM_tape iM_taped iM_size x_6625 x_6626 x_6627 x_6628 x_6629 x_6630 x_6631 iM_trouble rM_letters x_6632 iM_hasCourt rM_r rM_fresh rM_told rM_read rM_st rM_undone rM_kept iM_undos iM_images rM_fresher iM_fresherSize iM_scale iM_night rM_heardRow rM_cutRow iM_breaths iM_cutMany iM_allBreaths rM_trial rM_words iM_fewestBreaths iM_orderMany iM_orderSum iM_leastOrder rM_often iM_setMany iM_someOf iM_allOf iM_allWeight iM_enoughWeight iM_worthSum iM_firstRest iM_leastDrawn), (arI rM_tape kM_tape 900 fM_tape), (arI rM_letters kM_letters 8 f_6633), (arI rM_fresh kM_fresh 287 fM_fresh), (arI rM_read kM_read 90 fM_read), (arI rM_fresher kM_fresher 8 fM_fresher)]) hB rfl ht hP hD _ hMs hk1 hFc rfl
    clear hz1 hk1 hvm ht hB hMs
    rw [← hru9] at e_x_6625_5
    obtain ⟨x_6634, rfl⟩ : ∃ z, z = r := ⟨_, rfl⟩
    have hG := hG.trans (un10_eq e_x_6625_5)
    have bx_6634 := hw.1
    have dx_6634 := bz_tb bx_6634
    have lx_6634 := hw.2
    clear r_T
    refine lv_if_eq (tgt := 48) hx hb dX7_readLine_38 (by decide) (fun c_6635 => ?_) (fun c_6635 => ?_)
    · skip
      have hG := hG.trans (if_pos c_6635)
      have gc_6635 := ti_eq c_6635 rfl kc_0
      clear e_x_6625_3
      refine lv_aload_n hx hb dX7_readLine_48 rfl (lv_at hl 0 rfl) ?_
      obtain ⟨sa_6636, vsa_6636, nsa_6636, fsa_6636, hnsa_6636, hnesa_6636, hfesa_6636, hRsa_6636, hSsa_6636⟩ := hE.2.2.1 (138, "king", [107, 105, 110, 103]) (by decide)
      have hG := hG.trans (lt_eq hnesa_6636)
      have hG := hG.trans (lt_eq hfesa_6636)
      refine va_ldcS hx hb hown hRsa_6636 dX7_readLine_49 ?_
      refine lv_aload_n hx hb dX7_readLine_51 rfl (lv_at hl 0 rfl) ?_
      refine va_get (D := (dC, dI)) (ci := 7) (v := .ref rM_fresh) (C := RX7) (T := TX7) (N := 48) hx hb hts inX7 hown hK hP 0 rfl rfl 16 (by decide) (hts _ wd_156) (fun _ h9 => h9) rfl dX7_readLine_52 ?_
      refine lv_bipush (v := 7) hx hb dX7_readLine_55 (by decide) ?_
      refine va_iald hx hb hK hP 3 2 rfl rfl (by unfold vp_in; decide) dX7_readLine_57 ?_
      refine lv_topi (fun x_6637 ex_6637 => ?_)
      have hG := hG.trans (lt_eq ex_6637)
      have cx_6637 : (fM_fresh 7).toInt = x_6637.toInt := congrArg Int32.toInt (show fM_fresh 7 = x_6637 from ex_6637.symm)
      refine lv_bipush (v := 8) hx hb dX7_readLine_58 (by decide) ?_
      refine vz_jgeX hx hb dX7_readLine_60 dX7_readLine_63 dX7_readLine_64 dX7_readLine_67 (fun x_6638 ex_6638 b_x_6638 j_x_6638 => ?_)
      have hG := hG.trans (lt_eq ex_6638)
      have j_x_6638 : 1 ≤ x_6638.toInt → x_6637.toInt < 8 := fun h9 => by have h8 := j_x_6638 h9; rw [kc_8] at h8; exact h8
      have hMs := ml_of hD [true, true, true, true, true, false] (wc := [(oc7 oM iM_thrown rM_tape iM_taped iM_size x_6625 x_6626 x_6627 x_6628 x_6629 x_6630 x_6631 iM_trouble rM_letters x_6632 iM_hasCourt rM_r rM_fresh rM_told rM_read rM_st rM_undone rM_kept iM_undos iM_images rM_fresher iM_fresherSize iM_scale iM_night rM_heardRow rM_cutRow iM_breaths iM_cutMany iM_allBreaths rM_trial rM_words iM_fewestBreaths iM_orderMany iM_orderSum iM_leastOrder rM_often iM_setMany iM_someOf iM_allOf iM_allWeight iM_enoughWeight iM_worthSum iM_firstRest iM_leastDrawn), (arI rM_tape kM_tape 900 fM_tape), (arI rM_letters kM_letters 8 f_6633), (arI rM_fresh kM_fresh 287 fM_fresh), (arI rM_read kM_read 90 fM_read)]) rfl
      have hFc := va_freeM hD hS hA _ hMs
      refine va_calli (va_runV (As := [.ref sa_6636, .int x_6638]) (rest := []) ⟨hx, hb, hml, hown, hts⟩ (tX7_begins l dC dI _ oM iM_thrown rM_tape fM_tape kM_tape iM_taped iM_size x_6625 x_6626 x_6627 x_6628 x_6629 x_6630 x_6631 iM_trouble rM_letters f_6633 kM_letters x_6632 iM_hasCourt rM_r rM_fresh fM_fresh kM_fresh rM_told rM_read fM_read kM_read rM_st rM_undone rM_kept iM_undos iM_images rM_fresher iM_fresherSize iM_scale iM_night rM_heardRow rM_cutRow iM_breaths iM_cutMany iM_allBreaths rM_trial rM_words iM_fewestBreaths iM_orderMany iM_orderSum iM_leastOrder rM_often iM_setMany iM_someOf iM_allOf iM_allWeight iM_enoughWeight iM_worthSum iM_firstRest iM_leastDrawn sa_6636 x_6638 vsa_6636 nsa_6636 fsa_6636 b_iM_taped b_iM_size b_x_6626 b_x_6629 b_x_6632 b_iM_hasCourt b_iM_undos b_iM_images b_iM_scale b_iM_breaths b_iM_cutMany e_x_6625_1 r_P (Nat.le_trans (Nat.le_of_eq hnesa_6636) (by decide)) (by first | assumption | (have q0 := kc_0; have q1 := kc_1; first | exact ⟨by omega, by omega⟩ | omega) | decide | (intro h; exact absurd h (by decide)))) (cwV 2 hts (wd_V wd_450 wd_451 wd_452 wd_5 (wd_c wd_453)) rfl rfl rfl dv_yX7_begins_2 ⟨Nat.le_of_ble_eq_true rfl, Nat.le_of_ble_eq_true rfl⟩) ⟨Pq.fb, recvX7 hK hP (q0 := 0) rfl, fun U hU hW => Pq.to (hP.ms _ hMs) (hD.ms _ hMs) (hK.ms [true, true, true, true, false] rfl) hSsa_6636 hE hS hFc hU hW⟩ rfl rfl hl.1 rfl (lv_room (Nat.le_of_ble_eq_true rfl)) dX7_readLine_68 ⟨Nat.le_of_ble_eq_true rfl, Nat.le_of_ble_eq_true rfl⟩) hS (fun q _ h => hFc q h) hFc (fun r u t H locs ht hvm hw hB hz1 hk1 hS => ?_)
      have hru9 := hw.2
      have hw := hw.1
      refine ex_9_9 hB (fun x_6639 x_6640 x_6641 x_6642 x_6643 x_6644 x_6645 x_6646 f_6647 b_x_6640 b_x_6643 b_x_6646 e_x_6639_0 e_x_6639_1 e_x_6639_2 e_x_6639_3 e_x_6639_4 e_x_6639_5 hB => ?_)
      obtain ⟨hP, hD⟩ := Bw.goN (ws' := [(oc7 oM iM_thrown rM_tape iM_taped iM_size x_6639 x_6640 x_6641 x_6642 x_6643 x_6644 x_6645 iM_trouble rM_letters x_6646 iM_hasCourt rM_r rM_fresh rM_told rM_read rM_st rM_undone rM_kept iM_undos iM_images rM_fresher iM_fresherSize iM_scale iM_night rM_heardRow rM_cutRow iM_breaths iM_cutMany iM_allBreaths rM_trial rM_words iM_fewestBreaths iM_orderMany iM_orderSum iM_leastOrder rM_often iM_setMany iM_someOf iM_allOf iM_allWeight iM_enoughWeight iM_worthSum iM_firstRest iM_leastDrawn), (arI rM_tape kM_tape 900 fM_tape), (arI rM_letters kM_letters 8 f_6647), (arI rM_fresh kM_fresh 287 fM_fresh), (arI rM_read kM_read 90 fM_read), (arI rM_fresher kM_fresher 8 fM_fresher)]) hB rfl ht hP hD _ hMs hk1 hFc rfl
      clear hz1 hk1 hvm ht hB hMs
      rw [← hru9] at e_x_6639_5
      obtain ⟨x_6648, rfl⟩ : ∃ z, z = r := ⟨_, rfl⟩
      have hG := hG.trans (un10_eq e_x_6639_5)
      have bx_6648 := hw.1
      have dx_6648 := bz_tb bx_6648
      have lx_6648 := hw.2
      clear e_x_6625_1
      clear e_x_6625_4
      refine lv_if_eq (tgt := 82) hx hb dX7_readLine_71 (by decide) (fun c_6649 => ?_) (fun c_6649 => ?_)
      · skip
        have hG := hG.trans (if_pos c_6649)
        have gc_6649 := ti_eq c_6649 rfl kc_0
        clear e_x_6639_3
        refine lv_aload_n hx hb dX7_readLine_82 rfl (lv_at hl 0 rfl) ?_
        obtain ⟨sa_6650, vsa_6650, nsa_6650, fsa_6650, hnsa_6650, hnesa_6650, hfesa_6650, hRsa_6650, hSsa_6650⟩ := hE.2.2.1 (140, "queen", [113, 117, 101, 101, 110]) (by decide)
        have hG := hG.trans (lt_eq hnesa_6650)
        have hG := hG.trans (lt_eq hfesa_6650)
        refine va_ldcS hx hb hown hRsa_6650 dX7_readLine_83 ?_
        refine lv_aload_n hx hb dX7_readLine_85 rfl (lv_at hl 0 rfl) ?_
        refine va_get (D := (dC, dI)) (ci := 7) (v := .ref rM_fresh) (C := RX7) (T := TX7) (N := 48) hx hb hts inX7 hown hK hP 0 rfl rfl 16 (by decide) (hts _ wd_156) (fun _ h9 => h9) rfl dX7_readLine_86 ?_
        refine lv_bipush (v := 7) hx hb dX7_readLine_89 (by decide) ?_
        refine va_iald hx hb hK hP 3 2 rfl rfl (by unfold vp_in; decide) dX7_readLine_91 ?_
        refine lv_topi (fun x_6651 ex_6651 => ?_)
        have hG := hG.trans (lt_eq ex_6651)
        have cx_6651 : (fM_fresh 7).toInt = x_6651.toInt := congrArg Int32.toInt (show fM_fresh 7 = x_6651 from ex_6651.symm)
        refine lv_bipush (v := 8) hx hb dX7_readLine_92 (by decide) ?_
        refine vz_jgeX hx hb dX7_readLine_94 dX7_readLine_97 dX7_readLine_98 dX7_readLine_101 (fun x_6652 ex_6652 b_x_6652 j_x_6652 => ?_)
        have hG := hG.trans (lt_eq ex_6652)
        have j_x_6652 : 1 ≤ x_6652.toInt → x_6651.toInt < 8 := fun h9 => by have h8 := j_x_6652 h9; rw [kc_8] at h8; exact h8
        have hMs := ml_of hD [true, true, true, true, true, false] (wc := [(oc7 oM iM_thrown rM_tape iM_taped iM_size x_6639 x_6640 x_6641 x_6642 x_6643 x_6644 x_6645 iM_trouble rM_letters x_6646 iM_hasCourt rM_r rM_fresh rM_told rM_read rM_st rM_undone rM_kept iM_undos iM_images rM_fresher iM_fresherSize iM_scale iM_night rM_heardRow rM_cutRow iM_breaths iM_cutMany iM_allBreaths rM_trial rM_words iM_fewestBreaths iM_orderMany iM_orderSum iM_leastOrder rM_often iM_setMany iM_someOf iM_allOf iM_allWeight iM_enoughWeight iM_worthSum iM_firstRest iM_leastDrawn), (arI rM_tape kM_tape 900 fM_tape), (arI rM_letters kM_letters 8 f_6647), (arI rM_fresh kM_fresh 287 fM_fresh), (arI rM_read kM_read 90 fM_read)]) rfl
        have hFc := va_freeM hD hS hA _ hMs
        refine va_calli (va_runV (As := [.ref sa_6650, .int x_6652]) (rest := []) ⟨hx, hb, hml, hown, hts⟩ (tX7_begins l dC dI _ oM iM_thrown rM_tape fM_tape kM_tape iM_taped iM_size x_6639 x_6640 x_6641 x_6642 x_6643 x_6644 x_6645 iM_trouble rM_letters f_6647 kM_letters x_6646 iM_hasCourt rM_r rM_fresh fM_fresh kM_fresh rM_told rM_read fM_read kM_read rM_st rM_undone rM_kept iM_undos iM_images rM_fresher iM_fresherSize iM_scale iM_night rM_heardRow rM_cutRow iM_breaths iM_cutMany iM_allBreaths rM_trial rM_words iM_fewestBreaths iM_orderMany iM_orderSum iM_leastOrder rM_often iM_setMany iM_someOf iM_allOf iM_allWeight iM_enoughWeight iM_worthSum iM_firstRest iM_leastDrawn sa_6650 x_6652 vsa_6650 nsa_6650 fsa_6650 b_iM_taped b_iM_size b_x_6640 b_x_6643 b_x_6646 b_iM_hasCourt b_iM_undos b_iM_images b_iM_scale b_iM_breaths b_iM_cutMany e_x_6639_1 r_P (Nat.le_trans (Nat.le_of_eq hnesa_6650) (by decide)) (by first | assumption | (have q0 := kc_0; have q1 := kc_1; first | exact ⟨by omega, by omega⟩ | omega) | decide | (intro h; exact absurd h (by decide)))) (cwV 2 hts (wd_V wd_450 wd_451 wd_452 wd_5 (wd_c wd_453)) rfl rfl rfl dv_yX7_begins_2 ⟨Nat.le_of_ble_eq_true rfl, Nat.le_of_ble_eq_true rfl⟩) ⟨Pq.fb, recvX7 hK hP (q0 := 0) rfl, fun U hU hW => Pq.to (hP.ms _ hMs) (hD.ms _ hMs) (hK.ms [true, true, true, true, false] rfl) hSsa_6650 hE hS hFc hU hW⟩ rfl rfl hl.1 rfl (lv_room (Nat.le_of_ble_eq_true rfl)) dX7_readLine_102 ⟨Nat.le_of_ble_eq_true rfl, Nat.le_of_ble_eq_true rfl⟩) hS (fun q _ h => hFc q h) hFc (fun r u t H locs ht hvm hw hB hz1 hk1 hS => ?_)
        have hru9 := hw.2
        have hw := hw.1
        refine ex_9_9 hB (fun x_6653 x_6654 x_6655 x_6656 x_6657 x_6658 x_6659 x_6660 f_6661 b_x_6654 b_x_6657 b_x_6660 e_x_6653_0 e_x_6653_1 e_x_6653_2 e_x_6653_3 e_x_6653_4 e_x_6653_5 hB => ?_)
        obtain ⟨hP, hD⟩ := Bw.goN (ws' := [(oc7 oM iM_thrown rM_tape iM_taped iM_size x_6653 x_6654 x_6655 x_6656 x_6657 x_6658 x_6659 iM_trouble rM_letters x_6660 iM_hasCourt rM_r rM_fresh rM_told rM_read rM_st rM_undone rM_kept iM_undos iM_images rM_fresher iM_fresherSize iM_scale iM_night rM_heardRow rM_cutRow iM_breaths iM_cutMany iM_allBreaths rM_trial rM_words iM_fewestBreaths iM_orderMany iM_orderSum iM_leastOrder rM_often iM_setMany iM_someOf iM_allOf iM_allWeight iM_enoughWeight iM_worthSum iM_firstRest iM_leastDrawn), (arI rM_tape kM_tape 900 fM_tape), (arI rM_letters kM_letters 8 f_6661), (arI rM_fresh kM_fresh 287 fM_fresh), (arI rM_read kM_read 90 fM_read), (arI rM_fresher kM_fresher 8 fM_fresher)]) hB rfl ht hP hD _ hMs hk1 hFc rfl
        clear hz1 hk1 hvm ht hB hMs
        rw [← hru9] at e_x_6653_5
        obtain ⟨x_6662, rfl⟩ : ∃ z, z = r := ⟨_, rfl⟩
        have hG := hG.trans (un10_eq e_x_6653_5)
        have bx_6662 := hw.1
        have dx_6662 := bz_tb bx_6662
        have lx_6662 := hw.2
        clear e_x_6639_1
        clear e_x_6639_4
        refine lv_if_eq (tgt := 116) hx hb dX7_readLine_105 (by decide) (fun c_6663 => ?_) (fun c_6663 => ?_)
        · skip
          have hG := hG.trans (if_pos c_6663)
          have gc_6663 := ti_eq c_6663 rfl kc_0
          clear e_x_6653_3
          refine lv_aload_n hx hb dX7_readLine_116 rfl (lv_at hl 0 rfl) ?_
          obtain ⟨sa_6664, vsa_6664, nsa_6664, fsa_6664, hnsa_6664, hnesa_6664, hfesa_6664, hRsa_6664, hSsa_6664⟩ := hE.2.2.1 (142, "chance", [99, 104, 97, 110, 99, 101]) (by decide)
          have hG := hG.trans (lt_eq hnesa_6664)
          have hG := hG.trans (lt_eq hfesa_6664)
          refine va_ldcS hx hb hown hRsa_6664 dX7_readLine_117 ?_
          refine lv_aload_n hx hb dX7_readLine_119 rfl (lv_at hl 0 rfl) ?_
          refine va_get (D := (dC, dI)) (ci := 7) (v := .ref rM_fresh) (C := RX7) (T := TX7) (N := 48) hx hb hts inX7 hown hK hP 0 rfl rfl 16 (by decide) (hts _ wd_156) (fun _ h9 => h9) rfl dX7_readLine_120 ?_
          refine lv_bipush (v := 7) hx hb dX7_readLine_123 (by decide) ?_
          refine va_iald hx hb hK hP 3 2 rfl rfl (by unfold vp_in; decide) dX7_readLine_125 ?_
          refine lv_topi (fun x_6665 ex_6665 => ?_)
          have hG := hG.trans (lt_eq ex_6665)
          have cx_6665 : (fM_fresh 7).toInt = x_6665.toInt := congrArg Int32.toInt (show fM_fresh 7 = x_6665 from ex_6665.symm)
          refine lv_bipush (v := 8) hx hb dX7_readLine_126 (by decide) ?_
          refine lv_icmp_ge (tgt := 146) hx hb dX7_readLine_128 (by decide) (fun c_6666 => ?_) (fun c_6666 => ?_)
          · skip
            have hG := hG.trans (if_pos c_6666)
            have gc_6666 := ti_le c_6666 kc_8 rfl
            refine lv_iconst (v := 0) hx hb dX7_readLine_146 (by decide) ?_
            have hMs := ml_of hD [true, true, true, true, true, false] (wc := [(oc7 oM iM_thrown rM_tape iM_taped iM_size x_6653 x_6654 x_6655 x_6656 x_6657 x_6658 x_6659 iM_trouble rM_letters x_6660 iM_hasCourt rM_r rM_fresh rM_told rM_read rM_st rM_undone rM_kept iM_undos iM_images rM_fresher iM_fresherSize iM_scale iM_night rM_heardRow rM_cutRow iM_breaths iM_cutMany iM_allBreaths rM_trial rM_words iM_fewestBreaths iM_orderMany iM_orderSum iM_leastOrder rM_often iM_setMany iM_someOf iM_allOf iM_allWeight iM_enoughWeight iM_worthSum iM_firstRest iM_leastDrawn), (arI rM_tape kM_tape 900 fM_tape), (arI rM_letters kM_letters 8 f_6661), (arI rM_fresh kM_fresh 287 fM_fresh), (arI rM_read kM_read 90 fM_read)]) rfl
            have hFc := va_freeM hD hS hA _ hMs
            refine va_calli (va_runV (As := [.ref sa_6664, .int 0]) (rest := []) ⟨hx, hb, hml, hown, hts⟩ (tX7_begins l dC dI _ oM iM_thrown rM_tape fM_tape kM_tape iM_taped iM_size x_6653 x_6654 x_6655 x_6656 x_6657 x_6658 x_6659 iM_trouble rM_letters f_6661 kM_letters x_6660 iM_hasCourt rM_r rM_fresh fM_fresh kM_fresh rM_told rM_read fM_read kM_read rM_st rM_undone rM_kept iM_undos iM_images rM_fresher iM_fresherSize iM_scale iM_night rM_heardRow rM_cutRow iM_breaths iM_cutMany iM_allBreaths rM_trial rM_words iM_fewestBreaths iM_orderMany iM_orderSum iM_leastOrder rM_often iM_setMany iM_someOf iM_allOf iM_allWeight iM_enoughWeight iM_worthSum iM_firstRest iM_leastDrawn sa_6664 0 vsa_6664 nsa_6664 fsa_6664 b_iM_taped b_iM_size b_x_6654 b_x_6657 b_x_6660 b_iM_hasCourt b_iM_undos b_iM_images b_iM_scale b_iM_breaths b_iM_cutMany e_x_6653_1 r_P (Nat.le_trans (Nat.le_of_eq hnesa_6664) (by decide)) ⟨(om_b1de7dbe kc_0), (om_270f4ea0 kc_0)⟩) (cwV 2 hts (wd_V wd_450 wd_451 wd_452 wd_5 (wd_c wd_453)) rfl rfl rfl dv_yX7_begins_2 ⟨Nat.le_of_ble_eq_true rfl, Nat.le_of_ble_eq_true rfl⟩) ⟨Pq.fb, recvX7 hK hP (q0 := 0) rfl, fun U hU hW => Pq.to (hP.ms _ hMs) (hD.ms _ hMs) (hK.ms [true, true, true, true, false] rfl) hSsa_6664 hE hS hFc hU hW⟩ rfl rfl hl.1 rfl (lv_room (Nat.le_of_ble_eq_true rfl)) dX7_readLine_147 ⟨Nat.le_of_ble_eq_true rfl, Nat.le_of_ble_eq_true rfl⟩) hS (fun q _ h => hFc q h) hFc (fun r u t H locs ht hvm hw hB hz1 hk1 hS => ?_)
            have hru9 := hw.2
            have hw := hw.1
            refine ex_9_9 hB (fun x_6667 x_6668 x_6669 x_6670 x_6671 x_6672 x_6673 x_6674 f_6675 b_x_6668 b_x_6671 b_x_6674 e_x_6667_0 e_x_6667_1 e_x_6667_2 e_x_6667_3 e_x_6667_4 e_x_6667_5 hB => ?_)
            obtain ⟨hP, hD⟩ := Bw.goN (ws' := [(oc7 oM iM_thrown rM_tape iM_taped iM_size x_6667 x_6668 x_6669 x_6670 x_6671 x_6672 x_6673 iM_trouble rM_letters x_6674 iM_hasCourt rM_r rM_fresh rM_told rM_read rM_st rM_undone rM_kept iM_undos iM_images rM_fresher iM_fresherSize iM_scale iM_night rM_heardRow rM_cutRow iM_breaths iM_cutMany iM_allBreaths rM_trial rM_words iM_fewestBreaths iM_orderMany iM_orderSum iM_leastOrder rM_often iM_setMany iM_someOf iM_allOf iM_allWeight iM_enoughWeight iM_worthSum iM_firstRest iM_leastDrawn), (arI rM_tape kM_tape 900 fM_tape), (arI rM_letters kM_letters 8 f_6675), (arI rM_fresh kM_fresh 287 fM_fresh), (arI rM_read kM_read 90 fM_read), (arI rM_fresher kM_fresher 8 fM_fresher)]) hB rfl ht hP hD _ hMs hk1 hFc rfl
            clear hz1 hk1 hvm ht hB hMs
            rw [← hru9] at e_x_6667_5
            obtain ⟨x_6676, rfl⟩ : ∃ z, z = r := ⟨_, rfl⟩
            have hG := hG.trans (un10_eq e_x_6667_5)
            have bx_6676 := hw.1
            have dx_6676 := bz_tb bx_6676
            have lx_6676 := hw.2
            clear e_x_6653_1
            clear e_x_6653_4
            refine lv_if_eq (tgt := 161) hx hb dX7_readLine_150 (by decide) (fun c_6677 => ?_) (fun c_6677 => ?_)
            · skip
              have hG := hG.trans (if_pos c_6677)
              have gc_6677 := ti_eq c_6677 rfl kc_0
              clear e_x_6667_3
              refine lv_aload_n hx hb dX7_readLine_161 rfl (lv_at hl 0 rfl) ?_
              obtain ⟨sa_6678, vsa_6678, nsa_6678, fsa_6678, hnsa_6678, hnesa_6678, hfesa_6678, hRsa_6678, hSsa_6678⟩ := hE.2.2.1 (144, "throne", [116, 104, 114, 111, 110, 101]) (by decide)
              have hG := hG.trans (lt_eq hnesa_6678)
              have hG := hG.trans (lt_eq hfesa_6678)
              refine va_ldcS hx hb hown hRsa_6678 dX7_readLine_162 ?_
              have hMs := ml_of hD [true, false, true, false, false, false] (wc := [(oc7 oM iM_thrown rM_tape iM_taped iM_size x_6667 x_6668 x_6669 x_6670 x_6671 x_6672 x_6673 iM_trouble rM_letters x_6674 iM_hasCourt rM_r rM_fresh rM_told rM_read rM_st rM_undone rM_kept iM_undos iM_images rM_fresher iM_fresherSize iM_scale iM_night rM_heardRow rM_cutRow iM_breaths iM_cutMany iM_allBreaths rM_trial rM_words iM_fewestBreaths iM_orderMany iM_orderSum iM_leastOrder rM_often iM_setMany iM_someOf iM_allOf iM_allWeight iM_enoughWeight iM_worthSum iM_firstRest iM_leastDrawn), (arI rM_letters kM_letters 8 f_6675)]) rfl
              have hFc := va_freeM hD hS hA _ hMs
              refine va_calli (va_runV (As := [.ref sa_6678]) (rest := []) ⟨hx, hb, hml, hown, hts⟩ (tX7_isWord l dC dI _ oM iM_thrown rM_tape iM_taped iM_size x_6667 x_6668 x_6669 x_6670 x_6671 x_6672 x_6673 iM_trouble rM_letters f_6675 kM_letters x_6674 iM_hasCourt rM_r rM_fresh rM_told rM_read rM_st rM_undone rM_kept iM_undos iM_images rM_fresher iM_fresherSize iM_scale iM_night rM_heardRow rM_cutRow iM_breaths iM_cutMany iM_allBreaths rM_trial rM_words iM_fewestBreaths iM_orderMany iM_orderSum iM_leastOrder rM_often iM_setMany iM_someOf iM_allOf iM_allWeight iM_enoughWeight iM_worthSum iM_firstRest iM_leastDrawn sa_6678 vsa_6678 nsa_6678 fsa_6678 b_iM_taped b_iM_size b_x_6668 b_x_6671 b_x_6674 b_iM_hasCourt b_iM_undos b_iM_images b_iM_scale b_iM_breaths b_iM_cutMany e_x_6667_1 (Nat.le_trans (Nat.le_of_eq hnesa_6678) (by decide))) (cwV 1 hts (wd_V wd_420 wd_421 wd_422 wd_5 (wd_c wd_423)) rfl rfl rfl dv_yX7_isWord_1 ⟨Nat.le_of_ble_eq_true rfl, Nat.le_of_ble_eq_true rfl⟩) ⟨Pq.fb, recvX7 hK hP (q0 := 0) rfl, fun U hU hW => Pq.to (hP.ms _ hMs) (hD.ms _ hMs) (hK.ms [false, true, false, false, false] rfl) hSsa_6678 hE hS hFc hU hW⟩ rfl rfl hl.1 rfl (lv_room (Nat.le_of_ble_eq_true rfl)) dX7_readLine_164 ⟨Nat.le_of_ble_eq_true rfl, Nat.le_of_ble_eq_true rfl⟩) hS (fun q _ h => hFc q h) hFc (fun r u t H locs ht hvm hw hB hz1 hk1 hS => ?_)
              have hru9 := hw.2
              have hw := hw.1
              obtain ⟨hP, hD⟩ := Bw.goN (ws' := [(oc7 oM iM_thrown rM_tape iM_taped iM_size x_6667 x_6668 x_6669 x_6670 x_6671 x_6672 x_6673 iM_trouble rM_letters x_6674 iM_hasCourt rM_r rM_fresh rM_told rM_read rM_st rM_undone rM_kept iM_undos iM_images rM_fresher iM_fresherSize iM_scale iM_night rM_heardRow rM_cutRow iM_breaths iM_cutMany iM_allBreaths rM_trial rM_words iM_fewestBreaths iM_orderMany iM_orderSum iM_leastOrder rM_often iM_setMany iM_someOf iM_allOf iM_allWeight iM_enoughWeight iM_worthSum iM_firstRest iM_leastDrawn), (arI rM_tape kM_tape 900 fM_tape), (arI rM_letters kM_letters 8 f_6675), (arI rM_fresh kM_fresh 287 fM_fresh), (arI rM_read kM_read 90 fM_read), (arI rM_fresher kM_fresher 8 fM_fresher)]) hB rfl ht hP hD _ hMs hk1 hFc rfl
              clear hz1 hk1 hvm ht hB hMs
              obtain ⟨x_6679, rfl⟩ : ∃ z, z = r := ⟨_, rfl⟩
              have hG := hG.trans (lt_eq hru9.symm)
              have bx_6679 := hw.1
              have dx_6679 := bz_tb bx_6679
              have lx_6679 := hw.2
              refine lv_if_eq (tgt := 177) hx hb dX7_readLine_167 (by decide) (fun c_6680 => ?_) (fun c_6680 => ?_)
              · skip
                have hG := hG.trans (if_pos c_6680)
                have gc_6680 := ti_eq c_6680 rfl kc_0
                clear lx_6679
                refine lv_aload_n hx hb dX7_readLine_177 rfl (lv_at hl 0 rfl) ?_
                obtain ⟨sa_6681, vsa_6681, nsa_6681, fsa_6681, hnsa_6681, hnesa_6681, hfesa_6681, hRsa_6681, hSsa_6681⟩ := hE.2.2.1 (146, "unsure", [117, 110, 115, 117, 114, 101]) (by decide)
                have hG := hG.trans (lt_eq hnesa_6681)
                have hG := hG.trans (lt_eq hfesa_6681)
                refine va_ldcS hx hb hown hRsa_6681 dX7_readLine_178 ?_
                refine lv_aload_n hx hb dX7_readLine_180 rfl (lv_at hl 0 rfl) ?_
                refine va_get (D := (dC, dI)) (ci := 7) (v := .ref rM_fresh) (C := RX7) (T := TX7) (N := 48) hx hb hts inX7 hown hK hP 0 rfl rfl 16 (by decide) (hts _ wd_156) (fun _ h9 => h9) rfl dX7_readLine_181 ?_
                refine lv_iconst (v := 3) hx hb dX7_readLine_184 (by decide) ?_
                refine va_iald hx hb hK hP 3 2 rfl rfl (by unfold vp_in; decide) dX7_readLine_185 ?_
                refine lv_topi (fun x_6682 ex_6682 => ?_)
                have hG := hG.trans (lt_eq ex_6682)
                have cx_6682 : (fM_fresh 3).toInt = x_6682.toInt := congrArg Int32.toInt (show fM_fresh 3 = x_6682 from ex_6682.symm)
                refine lv_iconst (v := 4) hx hb dX7_readLine_186 (by decide) ?_
                refine vz_jgeX hx hb dX7_readLine_187 dX7_readLine_190 dX7_readLine_191 dX7_readLine_194 (fun x_6683 ex_6683 b_x_6683 j_x_6683 => ?_)
                have hG := hG.trans (lt_eq ex_6683)
                have j_x_6683 : 1 ≤ x_6683.toInt → x_6682.toInt < 4 := fun h9 => by have h8 := j_x_6683 h9; rw [kc_4] at h8; exact h8
                have hMs := ml_of hD [true, true, true, true, true, false] (wc := [(oc7 oM iM_thrown rM_tape iM_taped iM_size x_6667 x_6668 x_6669 x_6670 x_6671 x_6672 x_6673 iM_trouble rM_letters x_6674 iM_hasCourt rM_r rM_fresh rM_told rM_read rM_st rM_undone rM_kept iM_undos iM_images rM_fresher iM_fresherSize iM_scale iM_night rM_heardRow rM_cutRow iM_breaths iM_cutMany iM_allBreaths rM_trial rM_words iM_fewestBreaths iM_orderMany iM_orderSum iM_leastOrder rM_often iM_setMany iM_someOf iM_allOf iM_allWeight iM_enoughWeight iM_worthSum iM_firstRest iM_leastDrawn), (arI rM_tape kM_tape 900 fM_tape), (arI rM_letters kM_letters 8 f_6675), (arI rM_fresh kM_fresh 287 fM_fresh), (arI rM_read kM_read 90 fM_read)]) rfl
                have hFc := va_freeM hD hS hA _ hMs
                refine va_calli (va_runV (As := [.ref sa_6681, .int x_6683]) (rest := []) ⟨hx, hb, hml, hown, hts⟩ (tX7_begins l dC dI _ oM iM_thrown rM_tape fM_tape kM_tape iM_taped iM_size x_6667 x_6668 x_6669 x_6670 x_6671 x_6672 x_6673 iM_trouble rM_letters f_6675 kM_letters x_6674 iM_hasCourt rM_r rM_fresh fM_fresh kM_fresh rM_told rM_read fM_read kM_read rM_st rM_undone rM_kept iM_undos iM_images rM_fresher iM_fresherSize iM_scale iM_night rM_heardRow rM_cutRow iM_breaths iM_cutMany iM_allBreaths rM_trial rM_words iM_fewestBreaths iM_orderMany iM_orderSum iM_leastOrder rM_often iM_setMany iM_someOf iM_allOf iM_allWeight iM_enoughWeight iM_worthSum iM_firstRest iM_leastDrawn sa_6681 x_6683 vsa_6681 nsa_6681 fsa_6681 b_iM_taped b_iM_size b_x_6668 b_x_6671 b_x_6674 b_iM_hasCourt b_iM_undos b_iM_images b_iM_scale b_iM_breaths b_iM_cutMany e_x_6667_1 r_P (Nat.le_trans (Nat.le_of_eq hnesa_6681) (by decide)) (by first | assumption | (have q0 := kc_0; have q1 := kc_1; first | exact ⟨by omega, by omega⟩ | omega) | decide | (intro h; exact absurd h (by decide)))) (cwV 2 hts (wd_V wd_450 wd_451 wd_452 wd_5 (wd_c wd_453)) rfl rfl rfl dv_yX7_begins_2 ⟨Nat.le_of_ble_eq_true rfl, Nat.le_of_ble_eq_true rfl⟩) ⟨Pq.fb, recvX7 hK hP (q0 := 0) rfl, fun U hU hW => Pq.to (hP.ms _ hMs) (hD.ms _ hMs) (hK.ms [true, true, true, true, false] rfl) hSsa_6681 hE hS hFc hU hW⟩ rfl rfl hl.1 rfl (lv_room (Nat.le_of_ble_eq_true rfl)) dX7_readLine_195 ⟨Nat.le_of_ble_eq_true rfl, Nat.le_of_ble_eq_true rfl⟩) hS (fun q _ h => hFc q h) hFc (fun r u t H locs ht hvm hw hB hz1 hk1 hS => ?_)
                have hru9 := hw.2
                have hw := hw.1
                refine ex_9_9 hB (fun x_6684 x_6685 x_6686 x_6687 x_6688 x_6689 x_6690 x_6691 f_6692 b_x_6685 b_x_6688 b_x_6691 e_x_6684_0 e_x_6684_1 e_x_6684_2 e_x_6684_3 e_x_6684_4 e_x_6684_5 hB => ?_)
                obtain ⟨hP, hD⟩ := Bw.goN (ws' := [(oc7 oM iM_thrown rM_tape iM_taped iM_size x_6684 x_6685 x_6686 x_6687 x_6688 x_6689 x_6690 iM_trouble rM_letters x_6691 iM_hasCourt rM_r rM_fresh rM_told rM_read rM_st rM_undone rM_kept iM_undos iM_images rM_fresher iM_fresherSize iM_scale iM_night rM_heardRow rM_cutRow iM_breaths iM_cutMany iM_allBreaths rM_trial rM_words iM_fewestBreaths iM_orderMany iM_orderSum iM_leastOrder rM_often iM_setMany iM_someOf iM_allOf iM_allWeight iM_enoughWeight iM_worthSum iM_firstRest iM_leastDrawn), (arI rM_tape kM_tape 900 fM_tape), (arI rM_letters kM_letters 8 f_6692), (arI rM_fresh kM_fresh 287 fM_fresh), (arI rM_read kM_read 90 fM_read), (arI rM_fresher kM_fresher 8 fM_fresher)]) hB rfl ht hP hD _ hMs hk1 hFc rfl
                clear hz1 hk1 hvm ht hB hMs
                rw [← hru9] at e_x_6684_5
                obtain ⟨x_6693, rfl⟩ : ∃ z, z = r := ⟨_, rfl⟩
                have hG := hG.trans (un10_eq e_x_6684_5)
                have bx_6693 := hw.1
                have dx_6693 := bz_tb bx_6693
                have lx_6693 := hw.2
                clear e_x_6667_1
                clear e_x_6667_4
                refine lv_if_eq (tgt := 208) hx hb dX7_readLine_198 (by decide) (fun c_6694 => ?_) (fun c_6694 => ?_)
                · skip
                  have hG := hG.trans (if_pos c_6694)
                  have gc_6694 := ti_eq c_6694 rfl kc_0
                  clear e_x_6684_3
                  refine lv_aload_n hx hb dX7_readLine_208 rfl (lv_at hl 0 rfl) ?_
                  obtain ⟨sa_6695, vsa_6695, nsa_6695, fsa_6695, hnsa_6695, hnesa_6695, hfesa_6695, hRsa_6695, hSsa_6695⟩ := hE.2.2.1 (148, "said", [115, 97, 105, 100]) (by decide)
                  have hG := hG.trans (lt_eq hnesa_6695)
                  have hG := hG.trans (lt_eq hfesa_6695)
                  refine va_ldcS hx hb hown hRsa_6695 dX7_readLine_209 ?_
                  have hMs := ml_of hD [true, false, true, false, false, false] (wc := [(oc7 oM iM_thrown rM_tape iM_taped iM_size x_6684 x_6685 x_6686 x_6687 x_6688 x_6689 x_6690 iM_trouble rM_letters x_6691 iM_hasCourt rM_r rM_fresh rM_told rM_read rM_st rM_undone rM_kept iM_undos iM_images rM_fresher iM_fresherSize iM_scale iM_night rM_heardRow rM_cutRow iM_breaths iM_cutMany iM_allBreaths rM_trial rM_words iM_fewestBreaths iM_orderMany iM_orderSum iM_leastOrder rM_often iM_setMany iM_someOf iM_allOf iM_allWeight iM_enoughWeight iM_worthSum iM_firstRest iM_leastDrawn), (arI rM_letters kM_letters 8 f_6692)]) rfl
                  have hFc := va_freeM hD hS hA _ hMs
                  refine va_calli (va_runV (As := [.ref sa_6695]) (rest := []) ⟨hx, hb, hml, hown, hts⟩ (tX7_isWord l dC dI _ oM iM_thrown rM_tape iM_taped iM_size x_6684 x_6685 x_6686 x_6687 x_6688 x_6689 x_6690 iM_trouble rM_letters f_6692 kM_letters x_6691 iM_hasCourt rM_r rM_fresh rM_told rM_read rM_st rM_undone rM_kept iM_undos iM_images rM_fresher iM_fresherSize iM_scale iM_night rM_heardRow rM_cutRow iM_breaths iM_cutMany iM_allBreaths rM_trial rM_words iM_fewestBreaths iM_orderMany iM_orderSum iM_leastOrder rM_often iM_setMany iM_someOf iM_allOf iM_allWeight iM_enoughWeight iM_worthSum iM_firstRest iM_leastDrawn sa_6695 vsa_6695 nsa_6695 fsa_6695 b_iM_taped b_iM_size b_x_6685 b_x_6688 b_x_6691 b_iM_hasCourt b_iM_undos b_iM_images b_iM_scale b_iM_breaths b_iM_cutMany e_x_6684_1 (Nat.le_trans (Nat.le_of_eq hnesa_6695) (by decide))) (cwV 1 hts (wd_V wd_420 wd_421 wd_422 wd_5 (wd_c wd_423)) rfl rfl rfl dv_yX7_isWord_1 ⟨Nat.le_of_ble_eq_true rfl, Nat.le_of_ble_eq_true rfl⟩) ⟨Pq.fb, recvX7 hK hP (q0 := 0) rfl, fun U hU hW => Pq.to (hP.ms _ hMs) (hD.ms _ hMs) (hK.ms [false, true, false, false, false] rfl) hSsa_6695 hE hS hFc hU hW⟩ rfl rfl hl.1 rfl (lv_room (Nat.le_of_ble_eq_true rfl)) dX7_readLine_211 ⟨Nat.le_of_ble_eq_true rfl, Nat.le_of_ble_eq_true rfl⟩) hS (fun q _ h => hFc q h) hFc (fun r u t H locs ht hvm hw hB hz1 hk1 hS => ?_)
                  have hru9 := hw.2
                  have hw := hw.1
                  obtain ⟨hP, hD⟩ := Bw.goN (ws' := [(oc7 oM iM_thrown rM_tape iM_taped iM_size x_6684 x_6685 x_6686 x_6687 x_6688 x_6689 x_6690 iM_trouble rM_letters x_6691 iM_hasCourt rM_r rM_fresh rM_told rM_read rM_st rM_undone rM_kept iM_undos iM_images rM_fresher iM_fresherSize iM_scale iM_night rM_heardRow rM_cutRow iM_breaths iM_cutMany iM_allBreaths rM_trial rM_words iM_fewestBreaths iM_orderMany iM_orderSum iM_leastOrder rM_often iM_setMany iM_someOf iM_allOf iM_allWeight iM_enoughWeight iM_worthSum iM_firstRest iM_leastDrawn), (arI rM_tape kM_tape 900 fM_tape), (arI rM_letters kM_letters 8 f_6692), (arI rM_fresh kM_fresh 287 fM_fresh), (arI rM_read kM_read 90 fM_read), (arI rM_fresher kM_fresher 8 fM_fresher)]) hB rfl ht hP hD _ hMs hk1 hFc rfl
                  clear hz1 hk1 hvm ht hB hMs
                  obtain ⟨x_6696, rfl⟩ : ∃ z, z = r := ⟨_, rfl⟩
                  have hG := hG.trans (lt_eq hru9.symm)
                  have bx_6696 := hw.1
                  have dx_6696 := bz_tb bx_6696
                  have lx_6696 := hw.2
                  refine lv_if_eq (tgt := 224) hx hb dX7_readLine_214 (by decide) (fun c_6697 => ?_) (fun c_6697 => ?_)
                  · skip
                    have hG := hG.trans (if_pos c_6697)
                    have gc_6697 := ti_eq c_6697 rfl kc_0
                    clear lx_6696
                    refine lv_aload_n hx hb dX7_readLine_224 rfl (lv_at hl 0 rfl) ?_
                    refine lv_iconst (v := 1) hx hb dX7_readLine_225 (by decide) ?_
                    refine lv_aload_n hx hb dX7_readLine_226 rfl (lv_at hl 0 rfl) ?_
                    refine va_get (D := (dC, dI)) (ci := 7) (v := .int x_6684) (C := RX7) (T := TX7) (N := 48) hx hb hts inX7 hown hK hP 0 rfl rfl 4 (by decide) (hts _ wd_384) (fun _ h9 => h9) rfl dX7_readLine_227 ?_
                    have hMs := ml_of hD [true, false, false, false, false, false] (wc := [(oc7 oM iM_thrown rM_tape iM_taped iM_size x_6684 x_6685 x_6686 x_6687 x_6688 x_6689 x_6690 iM_trouble rM_letters x_6691 iM_hasCourt rM_r rM_fresh rM_told rM_read rM_st rM_undone rM_kept iM_undos iM_images rM_fresher iM_fresherSize iM_scale iM_night rM_heardRow rM_cutRow iM_breaths iM_cutMany iM_allBreaths rM_trial rM_words iM_fewestBreaths iM_orderMany iM_orderSum iM_leastOrder rM_often iM_setMany iM_someOf iM_allOf iM_allWeight iM_enoughWeight iM_worthSum iM_firstRest iM_leastDrawn)]) rfl
                    have hFc := va_freeM hD hS hA _ hMs
                    refine va_callv (va_runV (As := [.int 1, .int x_6684]) (rest := []) ⟨hx, hb, hml, hown, hts⟩ (tX7_wrong l dC dI _ oM iM_thrown rM_tape iM_taped iM_size x_6684 x_6685 x_6686 x_6687 x_6688 x_6689 x_6690 iM_trouble rM_letters x_6691 iM_hasCourt rM_r rM_fresh rM_told rM_read rM_st rM_undone rM_kept iM_undos iM_images rM_fresher iM_fresherSize iM_scale iM_night rM_heardRow rM_cutRow iM_breaths iM_cutMany iM_allBreaths rM_trial rM_words iM_fewestBreaths iM_orderMany iM_orderSum iM_leastOrder rM_often iM_setMany iM_someOf iM_allOf iM_allWeight iM_enoughWeight iM_worthSum iM_firstRest iM_leastDrawn 1 x_6684 b_iM_taped b_iM_size b_x_6685 b_x_6688 b_x_6691 b_iM_hasCourt b_iM_undos b_iM_images b_iM_scale b_iM_breaths b_iM_cutMany e_x_6684_1) (cwV 2 hts (wd_V wd_430 wd_431 wd_432 wd_5 (wd_c wd_433)) rfl rfl rfl dv_yX7_wrong_2 ⟨Nat.le_of_ble_eq_true rfl, Nat.le_of_ble_eq_true rfl⟩) ⟨Pw.fb, recvX7 hK hP (q0 := 0) rfl, fun U hU hW => Pw.to (hP.ms _ hMs) (hD.ms _ hMs) (hK.ms [false, false, false, false, false] rfl) hE hS hFc hU hW⟩ rfl rfl hl.1 rfl (lv_room (Nat.le_of_ble_eq_true rfl)) dX7_readLine_230 ⟨Nat.le_of_ble_eq_true rfl, Nat.le_of_ble_eq_true rfl⟩) hS (fun q _ h => hFc q h) hFc (fun u t H locs ht hvm hw hB hz1 hk1 hS => ?_)
                    refine ex_3_3 hB (fun x_6698 x_6699 x_6700 b_x_6700 e_x_6698_0 e_x_6698_1 hB => ?_)
                    obtain ⟨hP, hD⟩ := Bw.goN (ws' := [(oc7 oM iM_thrown rM_tape iM_taped iM_size x_6684 x_6685 x_6686 x_6687 x_6688 x_6698 x_6699 iM_trouble rM_letters x_6700 iM_hasCourt rM_r rM_fresh rM_told rM_read rM_st rM_undone rM_kept iM_undos iM_images rM_fresher iM_fresherSize iM_scale iM_night rM_heardRow rM_cutRow iM_breaths iM_cutMany iM_allBreaths rM_trial rM_words iM_fewestBreaths iM_orderMany iM_orderSum iM_leastOrder rM_often iM_setMany iM_someOf iM_allOf iM_allWeight iM_enoughWeight iM_worthSum iM_firstRest iM_leastDrawn), (arI rM_tape kM_tape 900 fM_tape), (arI rM_letters kM_letters 8 f_6692), (arI rM_fresh kM_fresh 287 fM_fresh), (arI rM_read kM_read 90 fM_read), (arI rM_fresher kM_fresher 8 fM_fresher)]) hB rfl ht hP hD _ hMs hk1 hFc rfl
                    clear hz1 hk1 hvm ht hB hMs
                    have hG := hG.trans (un3_eq e_x_6698_1)
                    exact wq_v hx hb hr 0 trivial (fun t ht hW => ⟨x_6684, x_6685, x_6686, x_6687, x_6688, x_6698, x_6699, x_6700, iM_fresherSize, f_6692, fM_fresh, fM_read, fM_fresher, b_x_6685, b_x_6688, b_x_6700, (om_dcd74bf2 e_x_6625_0 e_x_6639_0 e_x_6653_0 e_x_6667_0 e_x_6684_0), e_x_6684_1, (om_00f1c5dd b_iM_failed.2 e_x_6698_0), (fun h9 => False.elim (om_92495247 e_x_6698_0 h9.1)), r_P, hG, Bw.to hP hD hK ht hW⟩) hS dX7_readLine_233 hlocks
                  · skip
                    have hG := hG.trans (if_neg c_6697)
                    have gc_6697 := ti_ne c_6697 rfl kc_0
                    replace gc_6697 : (-1) * x_6696.toInt + 1 ≤ 0 := om_e3003f79 gc_6697 dx_6696.1
                    have h_6701 : x_6686.toInt = 2 := lx_6696 (om_7907a7c1 dx_6696.2 gc_6697)
                    clear lx_6696
                    have h_6702 : x_6688.toInt ≤ 8 := e_x_6684_1 h_6701
                    clear e_x_6684_1
                    refine lv_aload_n hx hb dX7_readLine_217 rfl (lv_at hl 0 rfl) ?_
                    have hMs := ml_of hD [true, true, true, true, true, false] (wc := [(oc7 oM iM_thrown rM_tape iM_taped iM_size x_6684 x_6685 x_6686 x_6687 x_6688 x_6689 x_6690 iM_trouble rM_letters x_6691 iM_hasCourt rM_r rM_fresh rM_told rM_read rM_st rM_undone rM_kept iM_undos iM_images rM_fresher iM_fresherSize iM_scale iM_night rM_heardRow rM_cutRow iM_breaths iM_cutMany iM_allBreaths rM_trial rM_words iM_fewestBreaths iM_orderMany iM_orderSum iM_leastOrder rM_often iM_setMany iM_someOf iM_allOf iM_allWeight iM_enoughWeight iM_worthSum iM_firstRest iM_leastDrawn), (arI rM_tape kM_tape 900 fM_tape), (arI rM_letters kM_letters 8 f_6692), (arI rM_fresh kM_fresh 287 fM_fresh), (arI rM_read kM_read 90 fM_read)]) rfl
                    have hFc := va_freeM hD hS hA _ hMs
                    refine va_callv (va_runV (As := []) (rest := []) ⟨hx, hb, hml, hown, hts⟩ (tX7_saidLine l dC dI _ oM iM_thrown rM_tape fM_tape kM_tape iM_taped iM_size x_6684 x_6685 x_6686 x_6687 x_6688 x_6689 x_6690 iM_trouble rM_letters f_6692 kM_letters x_6691 iM_hasCourt rM_r rM_fresh fM_fresh kM_fresh rM_told rM_read fM_read kM_read rM_st rM_undone rM_kept iM_undos iM_images rM_fresher iM_fresherSize iM_scale iM_night rM_heardRow rM_cutRow iM_breaths iM_cutMany iM_allBreaths rM_trial rM_words iM_fewestBreaths iM_orderMany iM_orderSum iM_leastOrder rM_often iM_setMany iM_someOf iM_allOf iM_allWeight iM_enoughWeight iM_worthSum iM_firstRest iM_leastDrawn b_iM_taped b_iM_size b_x_6685 b_x_6688 b_x_6691 b_iM_hasCourt b_iM_undos b_iM_images b_iM_scale b_iM_breaths b_iM_cutMany (fun h9 => h_6702) r_P) (cwV 0 hts (wd_V wd_498 wd_499 wd_500 wd_5 (wd_c wd_501)) rfl rfl rfl dv_yX7_saidLine_0 ⟨Nat.le_of_ble_eq_true rfl, Nat.le_of_ble_eq_true rfl⟩) ⟨Pw.fb, recvX7 hK hP (q0 := 0) rfl, fun U hU hW => Pw.to (hP.ms _ hMs) (hD.ms _ hMs) (hK.ms [true, true, true, true, false] rfl) hE hS hFc hU hW⟩ rfl rfl hl.1 rfl (lv_room (Nat.le_of_ble_eq_true rfl)) dX7_readLine_218 ⟨Nat.le_of_ble_eq_true rfl, Nat.le_of_ble_eq_true rfl⟩) hS (fun q _ h => hFc q h) hFc (fun u t H locs ht hvm hw hB hz1 hk1 hS => ?_)
                    refine ex_10_9 hB (fun x_6703 x_6704 x_6705 x_6706 x_6707 x_6708 x_6709 x_6710 f_6711 f_6712 b_x_6704 b_x_6707 b_x_6710 e_x_6703_0 e_x_6703_1 e_x_6703_2 e_x_6703_3 e_x_6703_4 e_x_6703_5 hB => ?_)
                    obtain ⟨hP, hD⟩ := Bw.goN (ws' := [(oc7 oM iM_thrown rM_tape iM_taped iM_size x_6703 x_6704 x_6705 x_6706 x_6707 x_6708 x_6709 iM_trouble rM_letters x_6710 iM_hasCourt rM_r rM_fresh rM_told rM_read rM_st rM_undone rM_kept iM_undos iM_images rM_fresher iM_fresherSize iM_scale iM_night rM_heardRow rM_cutRow iM_breaths iM_cutMany iM_allBreaths rM_trial rM_words iM_fewestBreaths iM_orderMany iM_orderSum iM_leastOrder rM_often iM_setMany iM_someOf iM_allOf iM_allWeight iM_enoughWeight iM_worthSum iM_firstRest iM_leastDrawn), (arI rM_tape kM_tape 900 fM_tape), (arI rM_letters kM_letters 8 f_6711), (arI rM_fresh kM_fresh 287 f_6712), (arI rM_read kM_read 90 fM_read), (arI rM_fresher kM_fresher 8 fM_fresher)]) hB rfl ht hP hD _ hMs hk1 hFc rfl
                    clear hz1 hk1 hvm ht hB hMs
                    have pl_f_6712 := e_x_6703_4.lins
                    have hG := hG.trans (un10_eq e_x_6703_5)
                    clear e_x_6684_4
                    refine lv_goto (tgt := 233) hx hb dX7_readLine_221 (by decide) ?_
                    exact wq_v hx hb hr 0 trivial (fun t ht hW => ⟨x_6703, x_6704, x_6705, x_6706, x_6707, x_6708, x_6709, x_6710, iM_fresherSize, f_6711, f_6712, fM_read, fM_fresher, b_x_6704, b_x_6707, b_x_6710, (om_ac7239fc e_x_6625_0 e_x_6639_0 e_x_6653_0 e_x_6667_0 e_x_6684_0 e_x_6703_0), e_x_6703_1, (om_ac7239fc e_x_6625_2 e_x_6639_2 e_x_6653_2 e_x_6667_2 e_x_6684_2 e_x_6703_2), (fun h9 => (om_ab9846f4 e_x_6625_0 e_x_6639_0 e_x_6653_0 e_x_6667_0 e_x_6684_0 (e_x_6703_3 ⟨h9.1, h9.2⟩))), e_x_6703_4, hG, Bw.to hP hD hK ht hW⟩) hS dX7_readLine_233 hlocks
                · skip
                  have hG := hG.trans (if_neg c_6694)
                  have gc_6694 := ti_ne c_6694 rfl kc_0
                  replace gc_6694 : (-1) * x_6693.toInt + 1 ≤ 0 := om_e3003f79 gc_6694 dx_6693.1
                  have h_6713 := e_x_6684_3 (by omega)
                  clear e_x_6684_3
                  refine lv_aload_n hx hb dX7_readLine_201 rfl (lv_at hl 0 rfl) ?_
                  have hMs := ml_of hD [true, true, true, true, true, false] (wc := [(oc7 oM iM_thrown rM_tape iM_taped iM_size x_6684 x_6685 x_6686 x_6687 x_6688 x_6689 x_6690 iM_trouble rM_letters x_6691 iM_hasCourt rM_r rM_fresh rM_told rM_read rM_st rM_undone rM_kept iM_undos iM_images rM_fresher iM_fresherSize iM_scale iM_night rM_heardRow rM_cutRow iM_breaths iM_cutMany iM_allBreaths rM_trial rM_words iM_fewestBreaths iM_orderMany iM_orderSum iM_leastOrder rM_often iM_setMany iM_someOf iM_allOf iM_allWeight iM_enoughWeight iM_worthSum iM_firstRest iM_leastDrawn), (arI rM_tape kM_tape 900 fM_tape), (arI rM_letters kM_letters 8 f_6692), (arI rM_fresh kM_fresh 287 fM_fresh), (arI rM_read kM_read 90 fM_read)]) rfl
                  have hFc := va_freeM hD hS hA _ hMs
                  refine va_callv (va_runV (As := []) (rest := []) ⟨hx, hb, hml, hown, hts⟩ (tX7_unsureLine l dC dI _ oM iM_thrown rM_tape fM_tape kM_tape iM_taped iM_size x_6684 x_6685 x_6686 x_6687 x_6688 x_6689 x_6690 iM_trouble rM_letters f_6692 kM_letters x_6691 iM_hasCourt rM_r rM_fresh fM_fresh kM_fresh rM_told rM_read fM_read kM_read rM_st rM_undone rM_kept iM_undos iM_images rM_fresher iM_fresherSize iM_scale iM_night rM_heardRow rM_cutRow iM_breaths iM_cutMany iM_allBreaths rM_trial rM_words iM_fewestBreaths iM_orderMany iM_orderSum iM_leastOrder rM_often iM_setMany iM_someOf iM_allOf iM_allWeight iM_enoughWeight iM_worthSum iM_firstRest iM_leastDrawn b_iM_taped b_iM_size b_x_6685 b_x_6688 b_x_6691 b_iM_hasCourt b_iM_undos b_iM_images b_iM_scale b_iM_breaths b_iM_cutMany e_x_6684_1 r_P (by intro h9; have q0 := kc_0; have q1 := kc_1; have q2 := kc_2; have q3 := kc_3; omega)) (cwV 0 hts (wd_V wd_494 wd_495 wd_496 wd_5 (wd_c wd_497)) rfl rfl rfl dv_yX7_unsureLine_0 ⟨Nat.le_of_ble_eq_true rfl, Nat.le_of_ble_eq_true rfl⟩) ⟨Pw.fb, recvX7 hK hP (q0 := 0) rfl, fun U hU hW => Pw.to (hP.ms _ hMs) (hD.ms _ hMs) (hK.ms [true, true, true, true, false] rfl) hE hS hFc hU hW⟩ rfl rfl hl.1 rfl (lv_room (Nat.le_of_ble_eq_true rfl)) dX7_readLine_202 ⟨Nat.le_of_ble_eq_true rfl, Nat.le_of_ble_eq_true rfl⟩) hS (fun q _ h => hFc q h) hFc (fun u t H locs ht hvm hw hB hz1 hk1 hS => ?_)
                  refine ex_10_9 hB (fun x_6714 x_6715 x_6716 x_6717 x_6718 x_6719 x_6720 x_6721 f_6722 f_6723 b_x_6715 b_x_6718 b_x_6721 e_x_6714_0 e_x_6714_1 e_x_6714_2 e_x_6714_3 e_x_6714_4 e_x_6714_5 hB => ?_)
                  obtain ⟨hP, hD⟩ := Bw.goN (ws' := [(oc7 oM iM_thrown rM_tape iM_taped iM_size x_6714 x_6715 x_6716 x_6717 x_6718 x_6719 x_6720 iM_trouble rM_letters x_6721 iM_hasCourt rM_r rM_fresh rM_told rM_read rM_st rM_undone rM_kept iM_undos iM_images rM_fresher iM_fresherSize iM_scale iM_night rM_heardRow rM_cutRow iM_breaths iM_cutMany iM_allBreaths rM_trial rM_words iM_fewestBreaths iM_orderMany iM_orderSum iM_leastOrder rM_often iM_setMany iM_someOf iM_allOf iM_allWeight iM_enoughWeight iM_worthSum iM_firstRest iM_leastDrawn), (arI rM_tape kM_tape 900 fM_tape), (arI rM_letters kM_letters 8 f_6722), (arI rM_fresh kM_fresh 287 f_6723), (arI rM_read kM_read 90 fM_read), (arI rM_fresher kM_fresher 8 fM_fresher)]) hB rfl ht hP hD _ hMs hk1 hFc rfl
                  clear hz1 hk1 hvm ht hB hMs
                  have pl_f_6723 := e_x_6714_4.lins
                  have hG := hG.trans (un10_eq e_x_6714_5)
                  clear e_x_6684_1
                  clear e_x_6684_4
                  refine lv_goto (tgt := 233) hx hb dX7_readLine_205 (by decide) ?_
                  exact wq_v hx hb hr 0 trivial (fun t ht hW => ⟨x_6714, x_6715, x_6716, x_6717, x_6718, x_6719, x_6720, x_6721, iM_fresherSize, f_6722, f_6723, fM_read, fM_fresher, b_x_6715, b_x_6718, b_x_6721, (om_ac7239fc e_x_6625_0 e_x_6639_0 e_x_6653_0 e_x_6667_0 e_x_6684_0 e_x_6714_0), e_x_6714_1, (om_ac7239fc e_x_6625_2 e_x_6639_2 e_x_6653_2 e_x_6667_2 e_x_6684_2 e_x_6714_2), (fun h9 => (om_ab9846f4 e_x_6625_0 e_x_6639_0 e_x_6653_0 e_x_6667_0 e_x_6684_0 (e_x_6714_3 ⟨h9.1, h9.2⟩))), e_x_6714_4, hG, Bw.to hP hD hK ht hW⟩) hS dX7_readLine_233 hlocks
              · skip
                have hG := hG.trans (if_neg c_6680)
                have gc_6680 := ti_ne c_6680 rfl kc_0
                replace gc_6680 : (-1) * x_6679.toInt + 1 ≤ 0 := om_e3003f79 gc_6680 dx_6679.1
                have h_6724 : x_6669.toInt = 2 := lx_6679 (om_7907a7c1 dx_6679.2 gc_6680)
                clear lx_6679
                have h_6725 : x_6671.toInt ≤ 8 := e_x_6667_1 h_6724
                clear e_x_6667_1
                refine lv_aload_n hx hb dX7_readLine_170 rfl (lv_at hl 0 rfl) ?_
                have hMs := ml_of hD [true, true, true, true, true, false] (wc := [(oc7 oM iM_thrown rM_tape iM_taped iM_size x_6667 x_6668 x_6669 x_6670 x_6671 x_6672 x_6673 iM_trouble rM_letters x_6674 iM_hasCourt rM_r rM_fresh rM_told rM_read rM_st rM_undone rM_kept iM_undos iM_images rM_fresher iM_fresherSize iM_scale iM_night rM_heardRow rM_cutRow iM_breaths iM_cutMany iM_allBreaths rM_trial rM_words iM_fewestBreaths iM_orderMany iM_orderSum iM_leastOrder rM_often iM_setMany iM_someOf iM_allOf iM_allWeight iM_enoughWeight iM_worthSum iM_firstRest iM_leastDrawn), (arI rM_tape kM_tape 900 fM_tape), (arI rM_letters kM_letters 8 f_6675), (arI rM_fresh kM_fresh 287 fM_fresh), (arI rM_read kM_read 90 fM_read)]) rfl
                have hFc := va_freeM hD hS hA _ hMs
                refine va_callv (va_runV (As := []) (rest := []) ⟨hx, hb, hml, hown, hts⟩ (tX7_throneLine l dC dI _ oM iM_thrown rM_tape fM_tape kM_tape iM_taped iM_size x_6667 x_6668 x_6669 x_6670 x_6671 x_6672 x_6673 iM_trouble rM_letters f_6675 kM_letters x_6674 iM_hasCourt rM_r rM_fresh fM_fresh kM_fresh rM_told rM_read fM_read kM_read rM_st rM_undone rM_kept iM_undos iM_images rM_fresher iM_fresherSize iM_scale iM_night rM_heardRow rM_cutRow iM_breaths iM_cutMany iM_allBreaths rM_trial rM_words iM_fewestBreaths iM_orderMany iM_orderSum iM_leastOrder rM_often iM_setMany iM_someOf iM_allOf iM_allWeight iM_enoughWeight iM_worthSum iM_firstRest iM_leastDrawn b_iM_taped b_iM_size b_x_6668 b_x_6671 b_x_6674 b_iM_hasCourt b_iM_undos b_iM_images b_iM_scale b_iM_breaths b_iM_cutMany (fun h9 => h_6725) r_P) (cwV 0 hts (wd_V wd_490 wd_491 wd_492 wd_5 (wd_c wd_493)) rfl rfl rfl dv_yX7_throneLine_0 ⟨Nat.le_of_ble_eq_true rfl, Nat.le_of_ble_eq_true rfl⟩) ⟨Pw.fb, recvX7 hK hP (q0 := 0) rfl, fun U hU hW => Pw.to (hP.ms _ hMs) (hD.ms _ hMs) (hK.ms [true, true, true, true, false] rfl) hE hS hFc hU hW⟩ rfl rfl hl.1 rfl (lv_room (Nat.le_of_ble_eq_true rfl)) dX7_readLine_171 ⟨Nat.le_of_ble_eq_true rfl, Nat.le_of_ble_eq_true rfl⟩) hS (fun q _ h => hFc q h) hFc (fun u t H locs ht hvm hw hB hz1 hk1 hS => ?_)
                refine ex_10_9 hB (fun x_6726 x_6727 x_6728 x_6729 x_6730 x_6731 x_6732 x_6733 f_6734 f_6735 b_x_6727 b_x_6730 b_x_6733 e_x_6726_0 e_x_6726_1 e_x_6726_2 e_x_6726_3 e_x_6726_4 e_x_6726_5 hB => ?_)
                obtain ⟨hP, hD⟩ := Bw.goN (ws' := [(oc7 oM iM_thrown rM_tape iM_taped iM_size x_6726 x_6727 x_6728 x_6729 x_6730 x_6731 x_6732 iM_trouble rM_letters x_6733 iM_hasCourt rM_r rM_fresh rM_told rM_read rM_st rM_undone rM_kept iM_undos iM_images rM_fresher iM_fresherSize iM_scale iM_night rM_heardRow rM_cutRow iM_breaths iM_cutMany iM_allBreaths rM_trial rM_words iM_fewestBreaths iM_orderMany iM_orderSum iM_leastOrder rM_often iM_setMany iM_someOf iM_allOf iM_allWeight iM_enoughWeight iM_worthSum iM_firstRest iM_leastDrawn), (arI rM_tape kM_tape 900 fM_tape), (arI rM_letters kM_letters 8 f_6734), (arI rM_fresh kM_fresh 287 f_6735), (arI rM_read kM_read 90 fM_read), (arI rM_fresher kM_fresher 8 fM_fresher)]) hB rfl ht hP hD _ hMs hk1 hFc rfl
                clear hz1 hk1 hvm ht hB hMs
                have pl_f_6735 := e_x_6726_4.lins
                have hG := hG.trans (un10_eq e_x_6726_5)
                clear e_x_6667_4
                refine lv_goto (tgt := 233) hx hb dX7_readLine_174 (by decide) ?_
                exact wq_v hx hb hr 0 trivial (fun t ht hW => ⟨x_6726, x_6727, x_6728, x_6729, x_6730, x_6731, x_6732, x_6733, iM_fresherSize, f_6734, f_6735, fM_read, fM_fresher, b_x_6727, b_x_6730, b_x_6733, (om_dcd74bf2 e_x_6625_0 e_x_6639_0 e_x_6653_0 e_x_6667_0 e_x_6726_0), e_x_6726_1, (om_dcd74bf2 e_x_6625_2 e_x_6639_2 e_x_6653_2 e_x_6667_2 e_x_6726_2), (fun h9 => (om_cad042f1 e_x_6625_0 e_x_6639_0 e_x_6653_0 e_x_6667_0 (e_x_6726_3 ⟨h9.1, h9.2⟩))), e_x_6726_4, hG, Bw.to hP hD hK ht hW⟩) hS dX7_readLine_233 hlocks
            · skip
              have hG := hG.trans (if_neg c_6677)
              have gc_6677 := ti_ne c_6677 rfl kc_0
              replace gc_6677 : (-1) * x_6676.toInt + 1 ≤ 0 := om_e3003f79 gc_6677 dx_6676.1
              have h_6736 := e_x_6667_3 (by omega)
              clear e_x_6667_3
              refine lv_aload_n hx hb dX7_readLine_153 rfl (lv_at hl 0 rfl) ?_
              refine lv_iconst (v := 3) hx hb dX7_readLine_154 (by decide) ?_
              have hFc := va_freeI hD hS hA
              refine va_callv (va_runV (As := [.int 3]) (rest := []) ⟨hx, hb, hml, hown, hts⟩ (tX7_innerLine l dC dI _ oM iM_thrown rM_tape fM_tape kM_tape iM_taped iM_size x_6667 x_6668 x_6669 x_6670 x_6671 x_6672 x_6673 iM_trouble rM_letters f_6675 kM_letters x_6674 iM_hasCourt rM_r rM_fresh fM_fresh kM_fresh rM_told rM_read fM_read kM_read rM_st rM_undone rM_kept iM_undos iM_images rM_fresher fM_fresher kM_fresher iM_fresherSize iM_scale iM_night rM_heardRow rM_cutRow iM_breaths iM_cutMany iM_allBreaths rM_trial rM_words iM_fewestBreaths iM_orderMany iM_orderSum iM_leastOrder rM_often iM_setMany iM_someOf iM_allOf iM_allWeight iM_enoughWeight iM_worthSum iM_firstRest iM_leastDrawn 3 b_iM_taped b_iM_size b_x_6668 b_x_6671 b_x_6674 b_iM_hasCourt b_iM_undos b_iM_images b_iM_scale b_iM_breaths b_iM_cutMany e_x_6667_1 r_P ⟨(om_bf54f653 kc_3), (om_6eb7c803 kc_3)⟩ (by intro h9; have q0 := kc_0; have q1 := kc_1; have q2 := kc_2; have q3 := kc_3; omega) (by intro h9; have q0 := kc_0; have q1 := kc_1; have q2 := kc_2; have q3 := kc_3; omega)) (cwV 1 hts (wd_V wd_482 wd_483 wd_484 wd_5 (wd_c wd_485)) rfl rfl rfl dv_yX7_innerLine_1 ⟨Nat.le_of_ble_eq_true rfl, Nat.le_of_ble_eq_true rfl⟩) ⟨Pw.fb, recvX7 hK hP (q0 := 0) rfl, fun U hU hW => Pw.to hP hD hK hE hS hFc hU hW⟩ rfl rfl hl.1 rfl (lv_room (Nat.le_of_ble_eq_true rfl)) dX7_readLine_155 ⟨Nat.le_of_ble_eq_true rfl, Nat.le_of_ble_eq_true rfl⟩) hS (fun q _ h => hFc q h) hFc (fun u t H locs ht hvm hw hB hz1 hk1 hS => ?_)
              refine ex_13_9 hB (fun x_6737 x_6738 x_6739 x_6740 x_6741 x_6742 x_6743 x_6744 x_6745 f_6746 f_6747 f_6748 f_6749 b_x_6738 b_x_6741 b_x_6744 e_x_6737_0 e_x_6737_1 e_x_6737_2 e_x_6737_3 e_x_6737_4 e_x_6737_5 hB => ?_)
              obtain ⟨hP, hD⟩ := Bw.goA (ws' := [(oc7 oM iM_thrown rM_tape iM_taped iM_size x_6737 x_6738 x_6739 x_6740 x_6741 x_6742 x_6743 iM_trouble rM_letters x_6744 iM_hasCourt rM_r rM_fresh rM_told rM_read rM_st rM_undone rM_kept iM_undos iM_images rM_fresher x_6745 iM_scale iM_night rM_heardRow rM_cutRow iM_breaths iM_cutMany iM_allBreaths rM_trial rM_words iM_fewestBreaths iM_orderMany iM_orderSum iM_leastOrder rM_often iM_setMany iM_someOf iM_allOf iM_allWeight iM_enoughWeight iM_worthSum iM_firstRest iM_leastDrawn), (arI rM_tape kM_tape 900 fM_tape), (arI rM_letters kM_letters 8 f_6746), (arI rM_fresh kM_fresh 287 f_6747), (arI rM_read kM_read 90 f_6748), (arI rM_fresher kM_fresher 8 f_6749)]) hB rfl ht hFc rfl
              clear hz1 hk1 hvm ht hB
              have pl_f_6747 := e_x_6737_4.lins
              have hG := hG.trans (un13_eq e_x_6737_5)
              clear e_x_6667_1
              clear e_x_6667_4
              refine lv_goto (tgt := 233) hx hb dX7_readLine_158 (by decide) ?_
              exact wq_v hx hb hr 0 trivial (fun t ht hW => ⟨x_6737, x_6738, x_6739, x_6740, x_6741, x_6742, x_6743, x_6744, x_6745, f_6746, f_6747, f_6748, f_6749, b_x_6738, b_x_6741, b_x_6744, (om_dcd74bf2 e_x_6625_0 e_x_6639_0 e_x_6653_0 e_x_6667_0 e_x_6737_0), e_x_6737_1, (om_dcd74bf2 e_x_6625_2 e_x_6639_2 e_x_6653_2 e_x_6667_2 e_x_6737_2), (fun h9 => (om_cad042f1 e_x_6625_0 e_x_6639_0 e_x_6653_0 e_x_6667_0 (e_x_6737_3 ⟨h9.1, h9.2⟩))), e_x_6737_4, hG, Bw.to hP hD hK ht hW⟩) hS dX7_readLine_233 hlocks
          · skip
            have hG := hG.trans (if_neg c_6666)
            have gc_6666 := ti_nle c_6666 kc_8 rfl
            refine lv_aload_n hx hb dX7_readLine_131 rfl (lv_at hl 0 rfl) ?_
            refine va_get (D := (dC, dI)) (ci := 7) (v := .ref rM_fresh) (C := RX7) (T := TX7) (N := 48) hx hb hts inX7 hown hK hP 0 rfl rfl 16 (by decide) (hts _ wd_156) (fun _ h9 => h9) rfl dX7_readLine_132 ?_
            refine lv_bipush (v := 8) hx hb dX7_readLine_135 (by decide) ?_
            refine va_iald hx hb hK hP 3 2 rfl rfl (by unfold vp_in; decide) dX7_readLine_137 ?_
            refine lv_topi (fun x_6750 ex_6750 => ?_)
            have hG := hG.trans (lt_eq ex_6750)
            have cx_6750 : (fM_fresh 8).toInt = x_6750.toInt := congrArg Int32.toInt (show fM_fresh 8 = x_6750 from ex_6750.symm)
            refine lv_iconst (v := 2) hx hb dX7_readLine_138 (by decide) ?_
            refine vz_jgeX hx hb dX7_readLine_139 dX7_readLine_142 dX7_readLine_143 dX7_readLine_146 (fun x_6751 ex_6751 b_x_6751 j_x_6751 => ?_)
            have hG := hG.trans (lt_eq ex_6751)
            have j_x_6751 : 1 ≤ x_6751.toInt → x_6750.toInt < 2 := fun h9 => by have h8 := j_x_6751 h9; rw [kc_2] at h8; exact h8
            have hMs := ml_of hD [true, true, true, true, true, false] (wc := [(oc7 oM iM_thrown rM_tape iM_taped iM_size x_6653 x_6654 x_6655 x_6656 x_6657 x_6658 x_6659 iM_trouble rM_letters x_6660 iM_hasCourt rM_r rM_fresh rM_told rM_read rM_st rM_undone rM_kept iM_undos iM_images rM_fresher iM_fresherSize iM_scale iM_night rM_heardRow rM_cutRow iM_breaths iM_cutMany iM_allBreaths rM_trial rM_words iM_fewestBreaths iM_orderMany iM_orderSum iM_leastOrder rM_often iM_setMany iM_someOf iM_allOf iM_allWeight iM_enoughWeight iM_worthSum iM_firstRest iM_leastDrawn), (arI rM_tape kM_tape 900 fM_tape), (arI rM_letters kM_letters 8 f_6661), (arI rM_fresh kM_fresh 287 fM_fresh), (arI rM_read kM_read 90 fM_read)]) rfl
            have hFc := va_freeM hD hS hA _ hMs
            refine va_calli (va_runV (As := [.ref sa_6664, .int x_6751]) (rest := []) ⟨hx, hb, hml, hown, hts⟩ (tX7_begins l dC dI _ oM iM_thrown rM_tape fM_tape kM_tape iM_taped iM_size x_6653 x_6654 x_6655 x_6656 x_6657 x_6658 x_6659 iM_trouble rM_letters f_6661 kM_letters x_6660 iM_hasCourt rM_r rM_fresh fM_fresh kM_fresh rM_told rM_read fM_read kM_read rM_st rM_undone rM_kept iM_undos iM_images rM_fresher iM_fresherSize iM_scale iM_night rM_heardRow rM_cutRow iM_breaths iM_cutMany iM_allBreaths rM_trial rM_words iM_fewestBreaths iM_orderMany iM_orderSum iM_leastOrder rM_often iM_setMany iM_someOf iM_allOf iM_allWeight iM_enoughWeight iM_worthSum iM_firstRest iM_leastDrawn sa_6664 x_6751 vsa_6664 nsa_6664 fsa_6664 b_iM_taped b_iM_size b_x_6654 b_x_6657 b_x_6660 b_iM_hasCourt b_iM_undos b_iM_images b_iM_scale b_iM_breaths b_iM_cutMany e_x_6653_1 r_P (Nat.le_trans (Nat.le_of_eq hnesa_6664) (by decide)) (by first | assumption | (have q0 := kc_0; have q1 := kc_1; first | exact ⟨by omega, by omega⟩ | omega) | decide | (intro h; exact absurd h (by decide)))) (cwV 2 hts (wd_V wd_450 wd_451 wd_452 wd_5 (wd_c wd_453)) rfl rfl rfl dv_yX7_begins_2 ⟨Nat.le_of_ble_eq_true rfl, Nat.le_of_ble_eq_true rfl⟩) ⟨Pq.fb, recvX7 hK hP (q0 := 0) rfl, fun U hU hW => Pq.to (hP.ms _ hMs) (hD.ms _ hMs) (hK.ms [true, true, true, true, false] rfl) hSsa_6664 hE hS hFc hU hW⟩ rfl rfl hl.1 rfl (lv_room (Nat.le_of_ble_eq_true rfl)) dX7_readLine_147 ⟨Nat.le_of_ble_eq_true rfl, Nat.le_of_ble_eq_true rfl⟩) hS (fun q _ h => hFc q h) hFc (fun r u t H locs ht hvm hw hB hz1 hk1 hS => ?_)
            have hru9 := hw.2
            have hw := hw.1
            refine ex_9_9 hB (fun x_6752 x_6753 x_6754 x_6755 x_6756 x_6757 x_6758 x_6759 f_6760 b_x_6753 b_x_6756 b_x_6759 e_x_6752_0 e_x_6752_1 e_x_6752_2 e_x_6752_3 e_x_6752_4 e_x_6752_5 hB => ?_)
            obtain ⟨hP, hD⟩ := Bw.goN (ws' := [(oc7 oM iM_thrown rM_tape iM_taped iM_size x_6752 x_6753 x_6754 x_6755 x_6756 x_6757 x_6758 iM_trouble rM_letters x_6759 iM_hasCourt rM_r rM_fresh rM_told rM_read rM_st rM_undone rM_kept iM_undos iM_images rM_fresher iM_fresherSize iM_scale iM_night rM_heardRow rM_cutRow iM_breaths iM_cutMany iM_allBreaths rM_trial rM_words iM_fewestBreaths iM_orderMany iM_orderSum iM_leastOrder rM_often iM_setMany iM_someOf iM_allOf iM_allWeight iM_enoughWeight iM_worthSum iM_firstRest iM_leastDrawn), (arI rM_tape kM_tape 900 fM_tape), (arI rM_letters kM_letters 8 f_6760), (arI rM_fresh kM_fresh 287 fM_fresh), (arI rM_read kM_read 90 fM_read), (arI rM_fresher kM_fresher 8 fM_fresher)]) hB rfl ht hP hD _ hMs hk1 hFc rfl
            clear hz1 hk1 hvm ht hB hMs
            rw [← hru9] at e_x_6752_5
            obtain ⟨x_6761, rfl⟩ : ∃ z, z = r := ⟨_, rfl⟩
            have hG := hG.trans (un10_eq e_x_6752_5)
            have bx_6761 := hw.1
            have dx_6761 := bz_tb bx_6761
            have lx_6761 := hw.2
            clear e_x_6653_1
            clear e_x_6653_4
            refine lv_if_eq (tgt := 161) hx hb dX7_readLine_150 (by decide) (fun c_6762 => ?_) (fun c_6762 => ?_)
            · skip
              have hG := hG.trans (if_pos c_6762)
              have gc_6762 := ti_eq c_6762 rfl kc_0
              clear e_x_6752_3
              refine lv_aload_n hx hb dX7_readLine_161 rfl (lv_at hl 0 rfl) ?_
              obtain ⟨sa_6763, vsa_6763, nsa_6763, fsa_6763, hnsa_6763, hnesa_6763, hfesa_6763, hRsa_6763, hSsa_6763⟩ := hE.2.2.1 (144, "throne", [116, 104, 114, 111, 110, 101]) (by decide)
              have hG := hG.trans (lt_eq hnesa_6763)
              have hG := hG.trans (lt_eq hfesa_6763)
              refine va_ldcS hx hb hown hRsa_6763 dX7_readLine_162 ?_
              have hMs := ml_of hD [true, false, true, false, false, false] (wc := [(oc7 oM iM_thrown rM_tape iM_taped iM_size x_6752 x_6753 x_6754 x_6755 x_6756 x_6757 x_6758 iM_trouble rM_letters x_6759 iM_hasCourt rM_r rM_fresh rM_told rM_read rM_st rM_undone rM_kept iM_undos iM_images rM_fresher iM_fresherSize iM_scale iM_night rM_heardRow rM_cutRow iM_breaths iM_cutMany iM_allBreaths rM_trial rM_words iM_fewestBreaths iM_orderMany iM_orderSum iM_leastOrder rM_often iM_setMany iM_someOf iM_allOf iM_allWeight iM_enoughWeight iM_worthSum iM_firstRest iM_leastDrawn), (arI rM_letters kM_letters 8 f_6760)]) rfl
              have hFc := va_freeM hD hS hA _ hMs
              refine va_calli (va_runV (As := [.ref sa_6763]) (rest := []) ⟨hx, hb, hml, hown, hts⟩ (tX7_isWord l dC dI _ oM iM_thrown rM_tape iM_taped iM_size x_6752 x_6753 x_6754 x_6755 x_6756 x_6757 x_6758 iM_trouble rM_letters f_6760 kM_letters x_6759 iM_hasCourt rM_r rM_fresh rM_told rM_read rM_st rM_undone rM_kept iM_undos iM_images rM_fresher iM_fresherSize iM_scale iM_night rM_heardRow rM_cutRow iM_breaths iM_cutMany iM_allBreaths rM_trial rM_words iM_fewestBreaths iM_orderMany iM_orderSum iM_leastOrder rM_often iM_setMany iM_someOf iM_allOf iM_allWeight iM_enoughWeight iM_worthSum iM_firstRest iM_leastDrawn sa_6763 vsa_6763 nsa_6763 fsa_6763 b_iM_taped b_iM_size b_x_6753 b_x_6756 b_x_6759 b_iM_hasCourt b_iM_undos b_iM_images b_iM_scale b_iM_breaths b_iM_cutMany e_x_6752_1 (Nat.le_trans (Nat.le_of_eq hnesa_6763) (by decide))) (cwV 1 hts (wd_V wd_420 wd_421 wd_422 wd_5 (wd_c wd_423)) rfl rfl rfl dv_yX7_isWord_1 ⟨Nat.le_of_ble_eq_true rfl, Nat.le_of_ble_eq_true rfl⟩) ⟨Pq.fb, recvX7 hK hP (q0 := 0) rfl, fun U hU hW => Pq.to (hP.ms _ hMs) (hD.ms _ hMs) (hK.ms [false, true, false, false, false] rfl) hSsa_6763 hE hS hFc hU hW⟩ rfl rfl hl.1 rfl (lv_room (Nat.le_of_ble_eq_true rfl)) dX7_readLine_164 ⟨Nat.le_of_ble_eq_true rfl, Nat.le_of_ble_eq_true rfl⟩) hS (fun q _ h => hFc q h) hFc (fun r u t H locs ht hvm hw hB hz1 hk1 hS => ?_)
              have hru9 := hw.2
              have hw := hw.1
              obtain ⟨hP, hD⟩ := Bw.goN (ws' := [(oc7 oM iM_thrown rM_tape iM_taped iM_size x_6752 x_6753 x_6754 x_6755 x_6756 x_6757 x_6758 iM_trouble rM_letters x_6759 iM_hasCourt rM_r rM_fresh rM_told rM_read rM_st rM_undone rM_kept iM_undos iM_images rM_fresher iM_fresherSize iM_scale iM_night rM_heardRow rM_cutRow iM_breaths iM_cutMany iM_allBreaths rM_trial rM_words iM_fewestBreaths iM_orderMany iM_orderSum iM_leastOrder rM_often iM_setMany iM_someOf iM_allOf iM_allWeight iM_enoughWeight iM_worthSum iM_firstRest iM_leastDrawn), (arI rM_tape kM_tape 900 fM_tape), (arI rM_letters kM_letters 8 f_6760), (arI rM_fresh kM_fresh 287 fM_fresh), (arI rM_read kM_read 90 fM_read), (arI rM_fresher kM_fresher 8 fM_fresher)]) hB rfl ht hP hD _ hMs hk1 hFc rfl
              clear hz1 hk1 hvm ht hB hMs
              obtain ⟨x_6764, rfl⟩ : ∃ z, z = r := ⟨_, rfl⟩
              have hG := hG.trans (lt_eq hru9.symm)
              have bx_6764 := hw.1
              have dx_6764 := bz_tb bx_6764
              have lx_6764 := hw.2
              refine lv_if_eq (tgt := 177) hx hb dX7_readLine_167 (by decide) (fun c_6765 => ?_) (fun c_6765 => ?_)
              · skip
                have hG := hG.trans (if_pos c_6765)
                have gc_6765 := ti_eq c_6765 rfl kc_0
                clear lx_6764
                refine lv_aload_n hx hb dX7_readLine_177 rfl (lv_at hl 0 rfl) ?_
                obtain ⟨sa_6766, vsa_6766, nsa_6766, fsa_6766, hnsa_6766, hnesa_6766, hfesa_6766, hRsa_6766, hSsa_6766⟩ := hE.2.2.1 (146, "unsure", [117, 110, 115, 117, 114, 101]) (by decide)
                have hG := hG.trans (lt_eq hnesa_6766)
                have hG := hG.trans (lt_eq hfesa_6766)
                refine va_ldcS hx hb hown hRsa_6766 dX7_readLine_178 ?_
                refine lv_aload_n hx hb dX7_readLine_180 rfl (lv_at hl 0 rfl) ?_
                refine va_get (D := (dC, dI)) (ci := 7) (v := .ref rM_fresh) (C := RX7) (T := TX7) (N := 48) hx hb hts inX7 hown hK hP 0 rfl rfl 16 (by decide) (hts _ wd_156) (fun _ h9 => h9) rfl dX7_readLine_181 ?_
                refine lv_iconst (v := 3) hx hb dX7_readLine_184 (by decide) ?_
                refine va_iald hx hb hK hP 3 2 rfl rfl (by unfold vp_in; decide) dX7_readLine_185 ?_
                refine lv_topi (fun x_6767 ex_6767 => ?_)
                have hG := hG.trans (lt_eq ex_6767)
                have cx_6767 : (fM_fresh 3).toInt = x_6767.toInt := congrArg Int32.toInt (show fM_fresh 3 = x_6767 from ex_6767.symm)
                refine lv_iconst (v := 4) hx hb dX7_readLine_186 (by decide) ?_
                refine vz_jgeX hx hb dX7_readLine_187 dX7_readLine_190 dX7_readLine_191 dX7_readLine_194 (fun x_6768 ex_6768 b_x_6768 j_x_6768 => ?_)
                have hG := hG.trans (lt_eq ex_6768)
                have j_x_6768 : 1 ≤ x_6768.toInt → x_6767.toInt < 4 := fun h9 => by have h8 := j_x_6768 h9; rw [kc_4] at h8; exact h8
                have hMs := ml_of hD [true, true, true, true, true, false] (wc := [(oc7 oM iM_thrown rM_tape iM_taped iM_size x_6752 x_6753 x_6754 x_6755 x_6756 x_6757 x_6758 iM_trouble rM_letters x_6759 iM_hasCourt rM_r rM_fresh rM_told rM_read rM_st rM_undone rM_kept iM_undos iM_images rM_fresher iM_fresherSize iM_scale iM_night rM_heardRow rM_cutRow iM_breaths iM_cutMany iM_allBreaths rM_trial rM_words iM_fewestBreaths iM_orderMany iM_orderSum iM_leastOrder rM_often iM_setMany iM_someOf iM_allOf iM_allWeight iM_enoughWeight iM_worthSum iM_firstRest iM_leastDrawn), (arI rM_tape kM_tape 900 fM_tape), (arI rM_letters kM_letters 8 f_6760), (arI rM_fresh kM_fresh 287 fM_fresh), (arI rM_read kM_read 90 fM_read)]) rfl
                have hFc := va_freeM hD hS hA _ hMs
                refine va_calli (va_runV (As := [.ref sa_6766, .int x_6768]) (rest := []) ⟨hx, hb, hml, hown, hts⟩ (tX7_begins l dC dI _ oM iM_thrown rM_tape fM_tape kM_tape iM_taped iM_size x_6752 x_6753 x_6754 x_6755 x_6756 x_6757 x_6758 iM_trouble rM_letters f_6760 kM_letters x_6759 iM_hasCourt rM_r rM_fresh fM_fresh kM_fresh rM_told rM_read fM_read kM_read rM_st rM_undone rM_kept iM_undos iM_images rM_fresher iM_fresherSize iM_scale iM_night rM_heardRow rM_cutRow iM_breaths iM_cutMany iM_allBreaths rM_trial rM_words iM_fewestBreaths iM_orderMany iM_orderSum iM_leastOrder rM_often iM_setMany iM_someOf iM_allOf iM_allWeight iM_enoughWeight iM_worthSum iM_firstRest iM_leastDrawn sa_6766 x_6768 vsa_6766 nsa_6766 fsa_6766 b_iM_taped b_iM_size b_x_6753 b_x_6756 b_x_6759 b_iM_hasCourt b_iM_undos b_iM_images b_iM_scale b_iM_breaths b_iM_cutMany e_x_6752_1 r_P (Nat.le_trans (Nat.le_of_eq hnesa_6766) (by decide)) (by first | assumption | (have q0 := kc_0; have q1 := kc_1; first | exact ⟨by omega, by omega⟩ | omega) | decide | (intro h; exact absurd h (by decide)))) (cwV 2 hts (wd_V wd_450 wd_451 wd_452 wd_5 (wd_c wd_453)) rfl rfl rfl dv_yX7_begins_2 ⟨Nat.le_of_ble_eq_true rfl, Nat.le_of_ble_eq_true rfl⟩) ⟨Pq.fb, recvX7 hK hP (q0 := 0) rfl, fun U hU hW => Pq.to (hP.ms _ hMs) (hD.ms _ hMs) (hK.ms [true, true, true, true, false] rfl) hSsa_6766 hE hS hFc hU hW⟩ rfl rfl hl.1 rfl (lv_room (Nat.le_of_ble_eq_true rfl)) dX7_readLine_195 ⟨Nat.le_of_ble_eq_true rfl, Nat.le_of_ble_eq_true rfl⟩) hS (fun q _ h => hFc q h) hFc (fun r u t H locs ht hvm hw hB hz1 hk1 hS => ?_)
                have hru9 := hw.2
                have hw := hw.1
                refine ex_9_9 hB (fun x_6769 x_6770 x_6771 x_6772 x_6773 x_6774 x_6775 x_6776 f_6777 b_x_6770 b_x_6773 b_x_6776 e_x_6769_0 e_x_6769_1 e_x_6769_2 e_x_6769_3 e_x_6769_4 e_x_6769_5 hB => ?_)
                obtain ⟨hP, hD⟩ := Bw.goN (ws' := [(oc7 oM iM_thrown rM_tape iM_taped iM_size x_6769 x_6770 x_6771 x_6772 x_6773 x_6774 x_6775 iM_trouble rM_letters x_6776 iM_hasCourt rM_r rM_fresh rM_told rM_read rM_st rM_undone rM_kept iM_undos iM_images rM_fresher iM_fresherSize iM_scale iM_night rM_heardRow rM_cutRow iM_breaths iM_cutMany iM_allBreaths rM_trial rM_words iM_fewestBreaths iM_orderMany iM_orderSum iM_leastOrder rM_often iM_setMany iM_someOf iM_allOf iM_allWeight iM_enoughWeight iM_worthSum iM_firstRest iM_leastDrawn), (arI rM_tape kM_tape 900 fM_tape), (arI rM_letters kM_letters 8 f_6777), (arI rM_fresh kM_fresh 287 fM_fresh), (arI rM_read kM_read 90 fM_read), (arI rM_fresher kM_fresher 8 fM_fresher)]) hB rfl ht hP hD _ hMs hk1 hFc rfl
                clear hz1 hk1 hvm ht hB hMs
                rw [← hru9] at e_x_6769_5
                obtain ⟨x_6778, rfl⟩ : ∃ z, z = r := ⟨_, rfl⟩
                have hG := hG.trans (un10_eq e_x_6769_5)
                have bx_6778 := hw.1
                have dx_6778 := bz_tb bx_6778
                have lx_6778 := hw.2
                clear e_x_6752_1
                clear e_x_6752_4
                refine lv_if_eq (tgt := 208) hx hb dX7_readLine_198 (by decide) (fun c_6779 => ?_) (fun c_6779 => ?_)
                · skip
                  have hG := hG.trans (if_pos c_6779)
                  have gc_6779 := ti_eq c_6779 rfl kc_0
                  clear e_x_6769_3
                  refine lv_aload_n hx hb dX7_readLine_208 rfl (lv_at hl 0 rfl) ?_
                  obtain ⟨sa_6780, vsa_6780, nsa_6780, fsa_6780, hnsa_6780, hnesa_6780, hfesa_6780, hRsa_6780, hSsa_6780⟩ := hE.2.2.1 (148, "said", [115, 97, 105, 100]) (by decide)
                  have hG := hG.trans (lt_eq hnesa_6780)
                  have hG := hG.trans (lt_eq hfesa_6780)
                  refine va_ldcS hx hb hown hRsa_6780 dX7_readLine_209 ?_
                  have hMs := ml_of hD [true, false, true, false, false, false] (wc := [(oc7 oM iM_thrown rM_tape iM_taped iM_size x_6769 x_6770 x_6771 x_6772 x_6773 x_6774 x_6775 iM_trouble rM_letters x_6776 iM_hasCourt rM_r rM_fresh rM_told rM_read rM_st rM_undone rM_kept iM_undos iM_images rM_fresher iM_fresherSize iM_scale iM_night rM_heardRow rM_cutRow iM_breaths iM_cutMany iM_allBreaths rM_trial rM_words iM_fewestBreaths iM_orderMany iM_orderSum iM_leastOrder rM_often iM_setMany iM_someOf iM_allOf iM_allWeight iM_enoughWeight iM_worthSum iM_firstRest iM_leastDrawn), (arI rM_letters kM_letters 8 f_6777)]) rfl
                  have hFc := va_freeM hD hS hA _ hMs
                  refine va_calli (va_runV (As := [.ref sa_6780]) (rest := []) ⟨hx, hb, hml, hown, hts⟩ (tX7_isWord l dC dI _ oM iM_thrown rM_tape iM_taped iM_size x_6769 x_6770 x_6771 x_6772 x_6773 x_6774 x_6775 iM_trouble rM_letters f_6777 kM_letters x_6776 iM_hasCourt rM_r rM_fresh rM_told rM_read rM_st rM_undone rM_kept iM_undos iM_images rM_fresher iM_fresherSize iM_scale iM_night rM_heardRow rM_cutRow iM_breaths iM_cutMany iM_allBreaths rM_trial rM_words iM_fewestBreaths iM_orderMany iM_orderSum iM_leastOrder rM_often iM_setMany iM_someOf iM_allOf iM_allWeight iM_enoughWeight iM_worthSum iM_firstRest iM_leastDrawn sa_6780 vsa_6780 nsa_6780 fsa_6780 b_iM_taped b_iM_size b_x_6770 b_x_6773 b_x_6776 b_iM_hasCourt b_iM_undos b_iM_images b_iM_scale b_iM_breaths b_iM_cutMany e_x_6769_1 (Nat.le_trans (Nat.le_of_eq hnesa_6780) (by decide))) (cwV 1 hts (wd_V wd_420 wd_421 wd_422 wd_5 (wd_c wd_423)) rfl rfl rfl dv_yX7_isWord_1 ⟨Nat.le_of_ble_eq_true rfl, Nat.le_of_ble_eq_true rfl⟩) ⟨Pq.fb, recvX7 hK hP (q0 := 0) rfl, fun U hU hW => Pq.to (hP.ms _ hMs) (hD.ms _ hMs) (hK.ms [false, true, false, false, false] rfl) hSsa_6780 hE hS hFc hU hW⟩ rfl rfl hl.1 rfl (lv_room (Nat.le_of_ble_eq_true rfl)) dX7_readLine_211 ⟨Nat.le_of_ble_eq_true rfl, Nat.le_of_ble_eq_true rfl⟩) hS (fun q _ h => hFc q h) hFc (fun r u t H locs ht hvm hw hB hz1 hk1 hS => ?_)
                  have hru9 := hw.2
                  have hw := hw.1
                  obtain ⟨hP, hD⟩ := Bw.goN (ws' := [(oc7 oM iM_thrown rM_tape iM_taped iM_size x_6769 x_6770 x_6771 x_6772 x_6773 x_6774 x_6775 iM_trouble rM_letters x_6776 iM_hasCourt rM_r rM_fresh rM_told rM_read rM_st rM_undone rM_kept iM_undos iM_images rM_fresher iM_fresherSize iM_scale iM_night rM_heardRow rM_cutRow iM_breaths iM_cutMany iM_allBreaths rM_trial rM_words iM_fewestBreaths iM_orderMany iM_orderSum iM_leastOrder rM_often iM_setMany iM_someOf iM_allOf iM_allWeight iM_enoughWeight iM_worthSum iM_firstRest iM_leastDrawn), (arI rM_tape kM_tape 900 fM_tape), (arI rM_letters kM_letters 8 f_6777), (arI rM_fresh kM_fresh 287 fM_fresh), (arI rM_read kM_read 90 fM_read), (arI rM_fresher kM_fresher 8 fM_fresher)]) hB rfl ht hP hD _ hMs hk1 hFc rfl
                  clear hz1 hk1 hvm ht hB hMs
                  obtain ⟨x_6781, rfl⟩ : ∃ z, z = r := ⟨_, rfl⟩
                  have hG := hG.trans (lt_eq hru9.symm)
                  have bx_6781 := hw.1
                  have dx_6781 := bz_tb bx_6781
                  have lx_6781 := hw.2
                  refine lv_if_eq (tgt := 224) hx hb dX7_readLine_214 (by decide) (fun c_6782 => ?_) (fun c_6782 => ?_)
                  · skip
                    have hG := hG.trans (if_pos c_6782)
                    have gc_6782 := ti_eq c_6782 rfl kc_0
                    clear lx_6781
                    refine lv_aload_n hx hb dX7_readLine_224 rfl (lv_at hl 0 rfl) ?_
                    refine lv_iconst (v := 1) hx hb dX7_readLine_225 (by decide) ?_
                    refine lv_aload_n hx hb dX7_readLine_226 rfl (lv_at hl 0 rfl) ?_
                    refine va_get (D := (dC, dI)) (ci := 7) (v := .int x_6769) (C := RX7) (T := TX7) (N := 48) hx hb hts inX7 hown hK hP 0 rfl rfl 4 (by decide) (hts _ wd_384) (fun _ h9 => h9) rfl dX7_readLine_227 ?_
                    have hMs := ml_of hD [true, false, false, false, false, false] (wc := [(oc7 oM iM_thrown rM_tape iM_taped iM_size x_6769 x_6770 x_6771 x_6772 x_6773 x_6774 x_6775 iM_trouble rM_letters x_6776 iM_hasCourt rM_r rM_fresh rM_told rM_read rM_st rM_undone rM_kept iM_undos iM_images rM_fresher iM_fresherSize iM_scale iM_night rM_heardRow rM_cutRow iM_breaths iM_cutMany iM_allBreaths rM_trial rM_words iM_fewestBreaths iM_orderMany iM_orderSum iM_leastOrder rM_often iM_setMany iM_someOf iM_allOf iM_allWeight iM_enoughWeight iM_worthSum iM_firstRest iM_leastDrawn)]) rfl
                    have hFc := va_freeM hD hS hA _ hMs
                    refine va_callv (va_runV (As := [.int 1, .int x_6769]) (rest := []) ⟨hx, hb, hml, hown, hts⟩ (tX7_wrong l dC dI _ oM iM_thrown rM_tape iM_taped iM_size x_6769 x_6770 x_6771 x_6772 x_6773 x_6774 x_6775 iM_trouble rM_letters x_6776 iM_hasCourt rM_r rM_fresh rM_told rM_read rM_st rM_undone rM_kept iM_undos iM_images rM_fresher iM_fresherSize iM_scale iM_night rM_heardRow rM_cutRow iM_breaths iM_cutMany iM_allBreaths rM_trial rM_words iM_fewestBreaths iM_orderMany iM_orderSum iM_leastOrder rM_often iM_setMany iM_someOf iM_allOf iM_allWeight iM_enoughWeight iM_worthSum iM_firstRest iM_leastDrawn 1 x_6769 b_iM_taped b_iM_size b_x_6770 b_x_6773 b_x_6776 b_iM_hasCourt b_iM_undos b_iM_images b_iM_scale b_iM_breaths b_iM_cutMany e_x_6769_1) (cwV 2 hts (wd_V wd_430 wd_431 wd_432 wd_5 (wd_c wd_433)) rfl rfl rfl dv_yX7_wrong_2 ⟨Nat.le_of_ble_eq_true rfl, Nat.le_of_ble_eq_true rfl⟩) ⟨Pw.fb, recvX7 hK hP (q0 := 0) rfl, fun U hU hW => Pw.to (hP.ms _ hMs) (hD.ms _ hMs) (hK.ms [false, false, false, false, false] rfl) hE hS hFc hU hW⟩ rfl rfl hl.1 rfl (lv_room (Nat.le_of_ble_eq_true rfl)) dX7_readLine_230 ⟨Nat.le_of_ble_eq_true rfl, Nat.le_of_ble_eq_true rfl⟩) hS (fun q _ h => hFc q h) hFc (fun u t H locs ht hvm hw hB hz1 hk1 hS => ?_)
                    refine ex_3_3 hB (fun x_6783 x_6784 x_6785 b_x_6785 e_x_6783_0 e_x_6783_1 hB => ?_)
                    obtain ⟨hP, hD⟩ := Bw.goN (ws' := [(oc7 oM iM_thrown rM_tape iM_taped iM_size x_6769 x_6770 x_6771 x_6772 x_6773 x_6783 x_6784 iM_trouble rM_letters x_6785 iM_hasCourt rM_r rM_fresh rM_told rM_read rM_st rM_undone rM_kept iM_undos iM_images rM_fresher iM_fresherSize iM_scale iM_night rM_heardRow rM_cutRow iM_breaths iM_cutMany iM_allBreaths rM_trial rM_words iM_fewestBreaths iM_orderMany iM_orderSum iM_leastOrder rM_often iM_setMany iM_someOf iM_allOf iM_allWeight iM_enoughWeight iM_worthSum iM_firstRest iM_leastDrawn), (arI rM_tape kM_tape 900 fM_tape), (arI rM_letters kM_letters 8 f_6777), (arI rM_fresh kM_fresh 287 fM_fresh), (arI rM_read kM_read 90 fM_read), (arI rM_fresher kM_fresher 8 fM_fresher)]) hB rfl ht hP hD _ hMs hk1 hFc rfl
                    clear hz1 hk1 hvm ht hB hMs
                    have hG := hG.trans (un3_eq e_x_6783_1)
                    exact wq_v hx hb hr 0 trivial (fun t ht hW => ⟨x_6769, x_6770, x_6771, x_6772, x_6773, x_6783, x_6784, x_6785, iM_fresherSize, f_6777, fM_fresh, fM_read, fM_fresher, b_x_6770, b_x_6773, b_x_6785, (om_dcd74bf2 e_x_6625_0 e_x_6639_0 e_x_6653_0 e_x_6752_0 e_x_6769_0), e_x_6769_1, (om_00f1c5dd b_iM_failed.2 e_x_6783_0), (fun h9 => False.elim (om_92495247 e_x_6783_0 h9.1)), r_P, hG, Bw.to hP hD hK ht hW⟩) hS dX7_readLine_233 hlocks
                  · skip
                    have hG := hG.trans (if_neg c_6782)
                    have gc_6782 := ti_ne c_6782 rfl kc_0
                    replace gc_6782 : (-1) * x_6781.toInt + 1 ≤ 0 := om_e3003f79 gc_6782 dx_6781.1
                    have h_6786 : x_6771.toInt = 2 := lx_6781 (om_7907a7c1 dx_6781.2 gc_6782)
                    clear lx_6781
                    have h_6787 : x_6773.toInt ≤ 8 := e_x_6769_1 h_6786
                    clear e_x_6769_1
                    refine lv_aload_n hx hb dX7_readLine_217 rfl (lv_at hl 0 rfl) ?_
                    have hMs := ml_of hD [true, true, true, true, true, false] (wc := [(oc7 oM iM_thrown rM_tape iM_taped iM_size x_6769 x_6770 x_6771 x_6772 x_6773 x_6774 x_6775 iM_trouble rM_letters x_6776 iM_hasCourt rM_r rM_fresh rM_told rM_read rM_st rM_undone rM_kept iM_undos iM_images rM_fresher iM_fresherSize iM_scale iM_night rM_heardRow rM_cutRow iM_breaths iM_cutMany iM_allBreaths rM_trial rM_words iM_fewestBreaths iM_orderMany iM_orderSum iM_leastOrder rM_often iM_setMany iM_someOf iM_allOf iM_allWeight iM_enoughWeight iM_worthSum iM_firstRest iM_leastDrawn), (arI rM_tape kM_tape 900 fM_tape), (arI rM_letters kM_letters 8 f_6777), (arI rM_fresh kM_fresh 287 fM_fresh), (arI rM_read kM_read 90 fM_read)]) rfl
                    have hFc := va_freeM hD hS hA _ hMs
                    refine va_callv (va_runV (As := []) (rest := []) ⟨hx, hb, hml, hown, hts⟩ (tX7_saidLine l dC dI _ oM iM_thrown rM_tape fM_tape kM_tape iM_taped iM_size x_6769 x_6770 x_6771 x_6772 x_6773 x_6774 x_6775 iM_trouble rM_letters f_6777 kM_letters x_6776 iM_hasCourt rM_r rM_fresh fM_fresh kM_fresh rM_told rM_read fM_read kM_read rM_st rM_undone rM_kept iM_undos iM_images rM_fresher iM_fresherSize iM_scale iM_night rM_heardRow rM_cutRow iM_breaths iM_cutMany iM_allBreaths rM_trial rM_words iM_fewestBreaths iM_orderMany iM_orderSum iM_leastOrder rM_often iM_setMany iM_someOf iM_allOf iM_allWeight iM_enoughWeight iM_worthSum iM_firstRest iM_leastDrawn b_iM_taped b_iM_size b_x_6770 b_x_6773 b_x_6776 b_iM_hasCourt b_iM_undos b_iM_images b_iM_scale b_iM_breaths b_iM_cutMany (fun h9 => h_6787) r_P) (cwV 0 hts (wd_V wd_498 wd_499 wd_500 wd_5 (wd_c wd_501)) rfl rfl rfl dv_yX7_saidLine_0 ⟨Nat.le_of_ble_eq_true rfl, Nat.le_of_ble_eq_true rfl⟩) ⟨Pw.fb, recvX7 hK hP (q0 := 0) rfl, fun U hU hW => Pw.to (hP.ms _ hMs) (hD.ms _ hMs) (hK.ms [true, true, true, true, false] rfl) hE hS hFc hU hW⟩ rfl rfl hl.1 rfl (lv_room (Nat.le_of_ble_eq_true rfl)) dX7_readLine_218 ⟨Nat.le_of_ble_eq_true rfl, Nat.le_of_ble_eq_true rfl⟩) hS (fun q _ h => hFc q h) hFc (fun u t H locs ht hvm hw hB hz1 hk1 hS => ?_)
                    refine ex_10_9 hB (fun x_6788 x_6789 x_6790 x_6791 x_6792 x_6793 x_6794 x_6795 f_6796 f_6797 b_x_6789 b_x_6792 b_x_6795 e_x_6788_0 e_x_6788_1 e_x_6788_2 e_x_6788_3 e_x_6788_4 e_x_6788_5 hB => ?_)
                    obtain ⟨hP, hD⟩ := Bw.goN (ws' := [(oc7 oM iM_thrown rM_tape iM_taped iM_size x_6788 x_6789 x_6790 x_6791 x_6792 x_6793 x_6794 iM_trouble rM_letters x_6795 iM_hasCourt rM_r rM_fresh rM_told rM_read rM_st rM_undone rM_kept iM_undos iM_images rM_fresher iM_fresherSize iM_scale iM_night rM_heardRow rM_cutRow iM_breaths iM_cutMany iM_allBreaths rM_trial rM_words iM_fewestBreaths iM_orderMany iM_orderSum iM_leastOrder rM_often iM_setMany iM_someOf iM_allOf iM_allWeight iM_enoughWeight iM_worthSum iM_firstRest iM_leastDrawn), (arI rM_tape kM_tape 900 fM_tape), (arI rM_letters kM_letters 8 f_6796), (arI rM_fresh kM_fresh 287 f_6797), (arI rM_read kM_read 90 fM_read), (arI rM_fresher kM_fresher 8 fM_fresher)]) hB rfl ht hP hD _ hMs hk1 hFc rfl
                    clear hz1 hk1 hvm ht hB hMs
                    have pl_f_6797 := e_x_6788_4.lins
                    have hG := hG.trans (un10_eq e_x_6788_5)
                    clear e_x_6769_4
                    refine lv_goto (tgt := 233) hx hb dX7_readLine_221 (by decide) ?_
                    exact wq_v hx hb hr 0 trivial (fun t ht hW => ⟨x_6788, x_6789, x_6790, x_6791, x_6792, x_6793, x_6794, x_6795, iM_fresherSize, f_6796, f_6797, fM_read, fM_fresher, b_x_6789, b_x_6792, b_x_6795, (om_ac7239fc e_x_6625_0 e_x_6639_0 e_x_6653_0 e_x_6752_0 e_x_6769_0 e_x_6788_0), e_x_6788_1, (om_ac7239fc e_x_6625_2 e_x_6639_2 e_x_6653_2 e_x_6752_2 e_x_6769_2 e_x_6788_2), (fun h9 => (om_ab9846f4 e_x_6625_0 e_x_6639_0 e_x_6653_0 e_x_6752_0 e_x_6769_0 (e_x_6788_3 ⟨h9.1, h9.2⟩))), e_x_6788_4, hG, Bw.to hP hD hK ht hW⟩) hS dX7_readLine_233 hlocks
                · skip
                  have hG := hG.trans (if_neg c_6779)
                  have gc_6779 := ti_ne c_6779 rfl kc_0
                  replace gc_6779 : (-1) * x_6778.toInt + 1 ≤ 0 := om_e3003f79 gc_6779 dx_6778.1
                  have h_6798 := e_x_6769_3 (by omega)
                  clear e_x_6769_3
                  refine lv_aload_n hx hb dX7_readLine_201 rfl (lv_at hl 0 rfl) ?_
                  have hMs := ml_of hD [true, true, true, true, true, false] (wc := [(oc7 oM iM_thrown rM_tape iM_taped iM_size x_6769 x_6770 x_6771 x_6772 x_6773 x_6774 x_6775 iM_trouble rM_letters x_6776 iM_hasCourt rM_r rM_fresh rM_told rM_read rM_st rM_undone rM_kept iM_undos iM_images rM_fresher iM_fresherSize iM_scale iM_night rM_heardRow rM_cutRow iM_breaths iM_cutMany iM_allBreaths rM_trial rM_words iM_fewestBreaths iM_orderMany iM_orderSum iM_leastOrder rM_often iM_setMany iM_someOf iM_allOf iM_allWeight iM_enoughWeight iM_worthSum iM_firstRest iM_leastDrawn), (arI rM_tape kM_tape 900 fM_tape), (arI rM_letters kM_letters 8 f_6777), (arI rM_fresh kM_fresh 287 fM_fresh), (arI rM_read kM_read 90 fM_read)]) rfl
                  have hFc := va_freeM hD hS hA _ hMs
                  refine va_callv (va_runV (As := []) (rest := []) ⟨hx, hb, hml, hown, hts⟩ (tX7_unsureLine l dC dI _ oM iM_thrown rM_tape fM_tape kM_tape iM_taped iM_size x_6769 x_6770 x_6771 x_6772 x_6773 x_6774 x_6775 iM_trouble rM_letters f_6777 kM_letters x_6776 iM_hasCourt rM_r rM_fresh fM_fresh kM_fresh rM_told rM_read fM_read kM_read rM_st rM_undone rM_kept iM_undos iM_images rM_fresher iM_fresherSize iM_scale iM_night rM_heardRow rM_cutRow iM_breaths iM_cutMany iM_allBreaths rM_trial rM_words iM_fewestBreaths iM_orderMany iM_orderSum iM_leastOrder rM_often iM_setMany iM_someOf iM_allOf iM_allWeight iM_enoughWeight iM_worthSum iM_firstRest iM_leastDrawn b_iM_taped b_iM_size b_x_6770 b_x_6773 b_x_6776 b_iM_hasCourt b_iM_undos b_iM_images b_iM_scale b_iM_breaths b_iM_cutMany e_x_6769_1 r_P (by intro h9; have q0 := kc_0; have q1 := kc_1; have q2 := kc_2; have q3 := kc_3; omega)) (cwV 0 hts (wd_V wd_494 wd_495 wd_496 wd_5 (wd_c wd_497)) rfl rfl rfl dv_yX7_unsureLine_0 ⟨Nat.le_of_ble_eq_true rfl, Nat.le_of_ble_eq_true rfl⟩) ⟨Pw.fb, recvX7 hK hP (q0 := 0) rfl, fun U hU hW => Pw.to (hP.ms _ hMs) (hD.ms _ hMs) (hK.ms [true, true, true, true, false] rfl) hE hS hFc hU hW⟩ rfl rfl hl.1 rfl (lv_room (Nat.le_of_ble_eq_true rfl)) dX7_readLine_202 ⟨Nat.le_of_ble_eq_true rfl, Nat.le_of_ble_eq_true rfl⟩) hS (fun q _ h => hFc q h) hFc (fun u t H locs ht hvm hw hB hz1 hk1 hS => ?_)
                  refine ex_10_9 hB (fun x_6799 x_6800 x_6801 x_6802 x_6803 x_6804 x_6805 x_6806 f_6807 f_6808 b_x_6800 b_x_6803 b_x_6806 e_x_6799_0 e_x_6799_1 e_x_6799_2 e_x_6799_3 e_x_6799_4 e_x_6799_5 hB => ?_)
                  obtain ⟨hP, hD⟩ := Bw.goN (ws' := [(oc7 oM iM_thrown rM_tape iM_taped iM_size x_6799 x_6800 x_6801 x_6802 x_6803 x_6804 x_6805 iM_trouble rM_letters x_6806 iM_hasCourt rM_r rM_fresh rM_told rM_read rM_st rM_undone rM_kept iM_undos iM_images rM_fresher iM_fresherSize iM_scale iM_night rM_heardRow rM_cutRow iM_breaths iM_cutMany iM_allBreaths rM_trial rM_words iM_fewestBreaths iM_orderMany iM_orderSum iM_leastOrder rM_often iM_setMany iM_someOf iM_allOf iM_allWeight iM_enoughWeight iM_worthSum iM_firstRest iM_leastDrawn), (arI rM_tape kM_tape 900 fM_tape), (arI rM_letters kM_letters 8 f_6807), (arI rM_fresh kM_fresh 287 f_6808), (arI rM_read kM_read 90 fM_read), (arI rM_fresher kM_fresher 8 fM_fresher)]) hB rfl ht hP hD _ hMs hk1 hFc rfl
                  clear hz1 hk1 hvm ht hB hMs
                  have pl_f_6808 := e_x_6799_4.lins
                  have hG := hG.trans (un10_eq e_x_6799_5)
                  clear e_x_6769_1
                  clear e_x_6769_4
                  refine lv_goto (tgt := 233) hx hb dX7_readLine_205 (by decide) ?_
                  exact wq_v hx hb hr 0 trivial (fun t ht hW => ⟨x_6799, x_6800, x_6801, x_6802, x_6803, x_6804, x_6805, x_6806, iM_fresherSize, f_6807, f_6808, fM_read, fM_fresher, b_x_6800, b_x_6803, b_x_6806, (om_ac7239fc e_x_6625_0 e_x_6639_0 e_x_6653_0 e_x_6752_0 e_x_6769_0 e_x_6799_0), e_x_6799_1, (om_ac7239fc e_x_6625_2 e_x_6639_2 e_x_6653_2 e_x_6752_2 e_x_6769_2 e_x_6799_2), (fun h9 => (om_ab9846f4 e_x_6625_0 e_x_6639_0 e_x_6653_0 e_x_6752_0 e_x_6769_0 (e_x_6799_3 ⟨h9.1, h9.2⟩))), e_x_6799_4, hG, Bw.to hP hD hK ht hW⟩) hS dX7_readLine_233 hlocks
              · skip
                have hG := hG.trans (if_neg c_6765)
                have gc_6765 := ti_ne c_6765 rfl kc_0
                replace gc_6765 : (-1) * x_6764.toInt + 1 ≤ 0 := om_e3003f79 gc_6765 dx_6764.1
                have h_6809 : x_6754.toInt = 2 := lx_6764 (om_7907a7c1 dx_6764.2 gc_6765)
                clear lx_6764
                have h_6810 : x_6756.toInt ≤ 8 := e_x_6752_1 h_6809
                clear e_x_6752_1
                refine lv_aload_n hx hb dX7_readLine_170 rfl (lv_at hl 0 rfl) ?_
                have hMs := ml_of hD [true, true, true, true, true, false] (wc := [(oc7 oM iM_thrown rM_tape iM_taped iM_size x_6752 x_6753 x_6754 x_6755 x_6756 x_6757 x_6758 iM_trouble rM_letters x_6759 iM_hasCourt rM_r rM_fresh rM_told rM_read rM_st rM_undone rM_kept iM_undos iM_images rM_fresher iM_fresherSize iM_scale iM_night rM_heardRow rM_cutRow iM_breaths iM_cutMany iM_allBreaths rM_trial rM_words iM_fewestBreaths iM_orderMany iM_orderSum iM_leastOrder rM_often iM_setMany iM_someOf iM_allOf iM_allWeight iM_enoughWeight iM_worthSum iM_firstRest iM_leastDrawn), (arI rM_tape kM_tape 900 fM_tape), (arI rM_letters kM_letters 8 f_6760), (arI rM_fresh kM_fresh 287 fM_fresh), (arI rM_read kM_read 90 fM_read)]) rfl
                have hFc := va_freeM hD hS hA _ hMs
                refine va_callv (va_runV (As := []) (rest := []) ⟨hx, hb, hml, hown, hts⟩ (tX7_throneLine l dC dI _ oM iM_thrown rM_tape fM_tape kM_tape iM_taped iM_size x_6752 x_6753 x_6754 x_6755 x_6756 x_6757 x_6758 iM_trouble rM_letters f_6760 kM_letters x_6759 iM_hasCourt rM_r rM_fresh fM_fresh kM_fresh rM_told rM_read fM_read kM_read rM_st rM_undone rM_kept iM_undos iM_images rM_fresher iM_fresherSize iM_scale iM_night rM_heardRow rM_cutRow iM_breaths iM_cutMany iM_allBreaths rM_trial rM_words iM_fewestBreaths iM_orderMany iM_orderSum iM_leastOrder rM_often iM_setMany iM_someOf iM_allOf iM_allWeight iM_enoughWeight iM_worthSum iM_firstRest iM_leastDrawn b_iM_taped b_iM_size b_x_6753 b_x_6756 b_x_6759 b_iM_hasCourt b_iM_undos b_iM_images b_iM_scale b_iM_breaths b_iM_cutMany (fun h9 => h_6810) r_P) (cwV 0 hts (wd_V wd_490 wd_491 wd_492 wd_5 (wd_c wd_493)) rfl rfl rfl dv_yX7_throneLine_0 ⟨Nat.le_of_ble_eq_true rfl, Nat.le_of_ble_eq_true rfl⟩) ⟨Pw.fb, recvX7 hK hP (q0 := 0) rfl, fun U hU hW => Pw.to (hP.ms _ hMs) (hD.ms _ hMs) (hK.ms [true, true, true, true, false] rfl) hE hS hFc hU hW⟩ rfl rfl hl.1 rfl (lv_room (Nat.le_of_ble_eq_true rfl)) dX7_readLine_171 ⟨Nat.le_of_ble_eq_true rfl, Nat.le_of_ble_eq_true rfl⟩) hS (fun q _ h => hFc q h) hFc (fun u t H locs ht hvm hw hB hz1 hk1 hS => ?_)
                refine ex_10_9 hB (fun x_6811 x_6812 x_6813 x_6814 x_6815 x_6816 x_6817 x_6818 f_6819 f_6820 b_x_6812 b_x_6815 b_x_6818 e_x_6811_0 e_x_6811_1 e_x_6811_2 e_x_6811_3 e_x_6811_4 e_x_6811_5 hB => ?_)
                obtain ⟨hP, hD⟩ := Bw.goN (ws' := [(oc7 oM iM_thrown rM_tape iM_taped iM_size x_6811 x_6812 x_6813 x_6814 x_6815 x_6816 x_6817 iM_trouble rM_letters x_6818 iM_hasCourt rM_r rM_fresh rM_told rM_read rM_st rM_undone rM_kept iM_undos iM_images rM_fresher iM_fresherSize iM_scale iM_night rM_heardRow rM_cutRow iM_breaths iM_cutMany iM_allBreaths rM_trial rM_words iM_fewestBreaths iM_orderMany iM_orderSum iM_leastOrder rM_often iM_setMany iM_someOf iM_allOf iM_allWeight iM_enoughWeight iM_worthSum iM_firstRest iM_leastDrawn), (arI rM_tape kM_tape 900 fM_tape), (arI rM_letters kM_letters 8 f_6819), (arI rM_fresh kM_fresh 287 f_6820), (arI rM_read kM_read 90 fM_read), (arI rM_fresher kM_fresher 8 fM_fresher)]) hB rfl ht hP hD _ hMs hk1 hFc rfl
                clear hz1 hk1 hvm ht hB hMs
                have pl_f_6820 := e_x_6811_4.lins
                have hG := hG.trans (un10_eq e_x_6811_5)
                clear e_x_6752_4
                refine lv_goto (tgt := 233) hx hb dX7_readLine_174 (by decide) ?_
                exact wq_v hx hb hr 0 trivial (fun t ht hW => ⟨x_6811, x_6812, x_6813, x_6814, x_6815, x_6816, x_6817, x_6818, iM_fresherSize, f_6819, f_6820, fM_read, fM_fresher, b_x_6812, b_x_6815, b_x_6818, (om_dcd74bf2 e_x_6625_0 e_x_6639_0 e_x_6653_0 e_x_6752_0 e_x_6811_0), e_x_6811_1, (om_dcd74bf2 e_x_6625_2 e_x_6639_2 e_x_6653_2 e_x_6752_2 e_x_6811_2), (fun h9 => (om_cad042f1 e_x_6625_0 e_x_6639_0 e_x_6653_0 e_x_6752_0 (e_x_6811_3 ⟨h9.1, h9.2⟩))), e_x_6811_4, hG, Bw.to hP hD hK ht hW⟩) hS dX7_readLine_233 hlocks
            · skip
              have hG := hG.trans (if_neg c_6762)
              have gc_6762 := ti_ne c_6762 rfl kc_0
              replace gc_6762 : (-1) * x_6761.toInt + 1 ≤ 0 := om_e3003f79 gc_6762 dx_6761.1
              have h_6821 := e_x_6752_3 (by omega)
              clear e_x_6752_3
              refine lv_aload_n hx hb dX7_readLine_153 rfl (lv_at hl 0 rfl) ?_
              refine lv_iconst (v := 3) hx hb dX7_readLine_154 (by decide) ?_
              have hFc := va_freeI hD hS hA
              refine va_callv (va_runV (As := [.int 3]) (rest := []) ⟨hx, hb, hml, hown, hts⟩ (tX7_innerLine l dC dI _ oM iM_thrown rM_tape fM_tape kM_tape iM_taped iM_size x_6752 x_6753 x_6754 x_6755 x_6756 x_6757 x_6758 iM_trouble rM_letters f_6760 kM_letters x_6759 iM_hasCourt rM_r rM_fresh fM_fresh kM_fresh rM_told rM_read fM_read kM_read rM_st rM_undone rM_kept iM_undos iM_images rM_fresher fM_fresher kM_fresher iM_fresherSize iM_scale iM_night rM_heardRow rM_cutRow iM_breaths iM_cutMany iM_allBreaths rM_trial rM_words iM_fewestBreaths iM_orderMany iM_orderSum iM_leastOrder rM_often iM_setMany iM_someOf iM_allOf iM_allWeight iM_enoughWeight iM_worthSum iM_firstRest iM_leastDrawn 3 b_iM_taped b_iM_size b_x_6753 b_x_6756 b_x_6759 b_iM_hasCourt b_iM_undos b_iM_images b_iM_scale b_iM_breaths b_iM_cutMany e_x_6752_1 r_P ⟨(om_bf54f653 kc_3), (om_6eb7c803 kc_3)⟩ (fun h9 => (om_0511bc05 cx_6665 gc_6666)) (by intro h9; have q0 := kc_0; have q1 := kc_1; have q2 := kc_2; have q3 := kc_3; omega)) (cwV 1 hts (wd_V wd_482 wd_483 wd_484 wd_5 (wd_c wd_485)) rfl rfl rfl dv_yX7_innerLine_1 ⟨Nat.le_of_ble_eq_true rfl, Nat.le_of_ble_eq_true rfl⟩) ⟨Pw.fb, recvX7 hK hP (q0 := 0) rfl, fun U hU hW => Pw.to hP hD hK hE hS hFc hU hW⟩ rfl rfl hl.1 rfl (lv_room (Nat.le_of_ble_eq_true rfl)) dX7_readLine_155 ⟨Nat.le_of_ble_eq_true rfl, Nat.le_of_ble_eq_true rfl⟩) hS (fun q _ h => hFc q h) hFc (fun u t H locs ht hvm hw hB hz1 hk1 hS => ?_)
              refine ex_13_9 hB (fun x_6822 x_6823 x_6824 x_6825 x_6826 x_6827 x_6828 x_6829 x_6830 f_6831 f_6832 f_6833 f_6834 b_x_6823 b_x_6826 b_x_6829 e_x_6822_0 e_x_6822_1 e_x_6822_2 e_x_6822_3 e_x_6822_4 e_x_6822_5 hB => ?_)
              obtain ⟨hP, hD⟩ := Bw.goA (ws' := [(oc7 oM iM_thrown rM_tape iM_taped iM_size x_6822 x_6823 x_6824 x_6825 x_6826 x_6827 x_6828 iM_trouble rM_letters x_6829 iM_hasCourt rM_r rM_fresh rM_told rM_read rM_st rM_undone rM_kept iM_undos iM_images rM_fresher x_6830 iM_scale iM_night rM_heardRow rM_cutRow iM_breaths iM_cutMany iM_allBreaths rM_trial rM_words iM_fewestBreaths iM_orderMany iM_orderSum iM_leastOrder rM_often iM_setMany iM_someOf iM_allOf iM_allWeight iM_enoughWeight iM_worthSum iM_firstRest iM_leastDrawn), (arI rM_tape kM_tape 900 fM_tape), (arI rM_letters kM_letters 8 f_6831), (arI rM_fresh kM_fresh 287 f_6832), (arI rM_read kM_read 90 f_6833), (arI rM_fresher kM_fresher 8 f_6834)]) hB rfl ht hFc rfl
              clear hz1 hk1 hvm ht hB
              have pl_f_6832 := e_x_6822_4.lins
              have hG := hG.trans (un13_eq e_x_6822_5)
              clear e_x_6752_1
              clear e_x_6752_4
              refine lv_goto (tgt := 233) hx hb dX7_readLine_158 (by decide) ?_
              exact wq_v hx hb hr 0 trivial (fun t ht hW => ⟨x_6822, x_6823, x_6824, x_6825, x_6826, x_6827, x_6828, x_6829, x_6830, f_6831, f_6832, f_6833, f_6834, b_x_6823, b_x_6826, b_x_6829, (om_dcd74bf2 e_x_6625_0 e_x_6639_0 e_x_6653_0 e_x_6752_0 e_x_6822_0), e_x_6822_1, (om_dcd74bf2 e_x_6625_2 e_x_6639_2 e_x_6653_2 e_x_6752_2 e_x_6822_2), (fun h9 => (om_cad042f1 e_x_6625_0 e_x_6639_0 e_x_6653_0 e_x_6752_0 (e_x_6822_3 ⟨h9.1, h9.2⟩))), e_x_6822_4, hG, Bw.to hP hD hK ht hW⟩) hS dX7_readLine_233 hlocks
        · skip
          have hG := hG.trans (if_neg c_6663)
          have gc_6663 := ti_ne c_6663 rfl kc_0
          replace gc_6663 : (-1) * x_6662.toInt + 1 ≤ 0 := om_e3003f79 gc_6663 dx_6662.1
          have h_6835 := e_x_6653_3 (by omega)
          clear e_x_6653_3
          refine lv_aload_n hx hb dX7_readLine_108 rfl (lv_at hl 0 rfl) ?_
          refine lv_iconst (v := 2) hx hb dX7_readLine_109 (by decide) ?_
          have hFc := va_freeI hD hS hA
          refine va_callv (va_runV (As := [.int 2]) (rest := []) ⟨hx, hb, hml, hown, hts⟩ (tX7_innerLine l dC dI _ oM iM_thrown rM_tape fM_tape kM_tape iM_taped iM_size x_6653 x_6654 x_6655 x_6656 x_6657 x_6658 x_6659 iM_trouble rM_letters f_6661 kM_letters x_6660 iM_hasCourt rM_r rM_fresh fM_fresh kM_fresh rM_told rM_read fM_read kM_read rM_st rM_undone rM_kept iM_undos iM_images rM_fresher fM_fresher kM_fresher iM_fresherSize iM_scale iM_night rM_heardRow rM_cutRow iM_breaths iM_cutMany iM_allBreaths rM_trial rM_words iM_fewestBreaths iM_orderMany iM_orderSum iM_leastOrder rM_often iM_setMany iM_someOf iM_allOf iM_allWeight iM_enoughWeight iM_worthSum iM_firstRest iM_leastDrawn 2 b_iM_taped b_iM_size b_x_6654 b_x_6657 b_x_6660 b_iM_hasCourt b_iM_undos b_iM_images b_iM_scale b_iM_breaths b_iM_cutMany e_x_6653_1 r_P ⟨(om_1d8fb110 kc_2), (om_b5116cbd kc_2)⟩ (by intro h9; have q0 := kc_0; have q1 := kc_1; have q2 := kc_2; have q3 := kc_3; omega) (fun h9 => False.elim (om_bb111043 h9.2 kc_2))) (cwV 1 hts (wd_V wd_482 wd_483 wd_484 wd_5 (wd_c wd_485)) rfl rfl rfl dv_yX7_innerLine_1 ⟨Nat.le_of_ble_eq_true rfl, Nat.le_of_ble_eq_true rfl⟩) ⟨Pw.fb, recvX7 hK hP (q0 := 0) rfl, fun U hU hW => Pw.to hP hD hK hE hS hFc hU hW⟩ rfl rfl hl.1 rfl (lv_room (Nat.le_of_ble_eq_true rfl)) dX7_readLine_110 ⟨Nat.le_of_ble_eq_true rfl, Nat.le_of_ble_eq_true rfl⟩) hS (fun q _ h => hFc q h) hFc (fun u t H locs ht hvm hw hB hz1 hk1 hS => ?_)
          refine ex_13_9 hB (fun x_6836 x_6837 x_6838 x_6839 x_6840 x_6841 x_6842 x_6843 x_6844 f_6845 f_6846 f_6847 f_6848 b_x_6837 b_x_6840 b_x_6843 e_x_6836_0 e_x_6836_1 e_x_6836_2 e_x_6836_3 e_x_6836_4 e_x_6836_5 hB => ?_)
          obtain ⟨hP, hD⟩ := Bw.goA (ws' := [(oc7 oM iM_thrown rM_tape iM_taped iM_size x_6836 x_6837 x_6838 x_6839 x_6840 x_6841 x_6842 iM_trouble rM_letters x_6843 iM_hasCourt rM_r rM_fresh rM_told rM_read rM_st rM_undone rM_kept iM_undos iM_images rM_fresher x_6844 iM_scale iM_night rM_heardRow rM_cutRow iM_breaths iM_cutMany iM_allBreaths rM_trial rM_words iM_fewestBreaths iM_orderMany iM_orderSum iM_leastOrder rM_often iM_setMany iM_someOf iM_allOf iM_allWeight iM_enoughWeight iM_worthSum iM_firstRest iM_leastDrawn), (arI rM_tape kM_tape 900 fM_tape), (arI rM_letters kM_letters 8 f_6845), (arI rM_fresh kM_fresh 287 f_6846), (arI rM_read kM_read 90 f_6847), (arI rM_fresher kM_fresher 8 f_6848)]) hB rfl ht hFc rfl
          clear hz1 hk1 hvm ht hB
          have pl_f_6846 := e_x_6836_4.lins
          have hG := hG.trans (un13_eq e_x_6836_5)
          clear e_x_6653_1
          clear e_x_6653_4
          refine lv_goto (tgt := 233) hx hb dX7_readLine_113 (by decide) ?_
          exact wq_v hx hb hr 0 trivial (fun t ht hW => ⟨x_6836, x_6837, x_6838, x_6839, x_6840, x_6841, x_6842, x_6843, x_6844, f_6845, f_6846, f_6847, f_6848, b_x_6837, b_x_6840, b_x_6843, (om_dc41b317 e_x_6625_0 e_x_6639_0 e_x_6653_0 e_x_6836_0), e_x_6836_1, (om_dc41b317 e_x_6625_2 e_x_6639_2 e_x_6653_2 e_x_6836_2), (fun h9 => (om_67b34c44 e_x_6625_0 e_x_6639_0 e_x_6653_0 (e_x_6836_3 ⟨h9.1, h9.2⟩))), e_x_6836_4, hG, Bw.to hP hD hK ht hW⟩) hS dX7_readLine_233 hlocks
      · skip
        have hG := hG.trans (if_neg c_6649)
        have gc_6649 := ti_ne c_6649 rfl kc_0
        replace gc_6649 : (-1) * x_6648.toInt + 1 ≤ 0 := om_e3003f79 gc_6649 dx_6648.1
        have h_6849 := e_x_6639_3 (by omega)
        clear e_x_6639_3
        refine lv_aload_n hx hb dX7_readLine_74 rfl (lv_at hl 0 rfl) ?_
        refine lv_iconst (v := 1) hx hb dX7_readLine_75 (by decide) ?_
        have hFc := va_freeI hD hS hA
        refine va_callv (va_runV (As := [.int 1]) (rest := []) ⟨hx, hb, hml, hown, hts⟩ (tX7_innerLine l dC dI _ oM iM_thrown rM_tape fM_tape kM_tape iM_taped iM_size x_6639 x_6640 x_6641 x_6642 x_6643 x_6644 x_6645 iM_trouble rM_letters f_6647 kM_letters x_6646 iM_hasCourt rM_r rM_fresh fM_fresh kM_fresh rM_told rM_read fM_read kM_read rM_st rM_undone rM_kept iM_undos iM_images rM_fresher fM_fresher kM_fresher iM_fresherSize iM_scale iM_night rM_heardRow rM_cutRow iM_breaths iM_cutMany iM_allBreaths rM_trial rM_words iM_fewestBreaths iM_orderMany iM_orderSum iM_leastOrder rM_often iM_setMany iM_someOf iM_allOf iM_allWeight iM_enoughWeight iM_worthSum iM_firstRest iM_leastDrawn 1 b_iM_taped b_iM_size b_x_6640 b_x_6643 b_x_6646 b_iM_hasCourt b_iM_undos b_iM_images b_iM_scale b_iM_breaths b_iM_cutMany e_x_6639_1 r_P ⟨(om_c083232f kc_1), (om_a83fc49f kc_1)⟩ (by intro h9; have q0 := kc_0; have q1 := kc_1; have q2 := kc_2; have q3 := kc_3; omega) (fun h9 => False.elim (om_9636131c h9.2 kc_1))) (cwV 1 hts (wd_V wd_482 wd_483 wd_484 wd_5 (wd_c wd_485)) rfl rfl rfl dv_yX7_innerLine_1 ⟨Nat.le_of_ble_eq_true rfl, Nat.le_of_ble_eq_true rfl⟩) ⟨Pw.fb, recvX7 hK hP (q0 := 0) rfl, fun U hU hW => Pw.to hP hD hK hE hS hFc hU hW⟩ rfl rfl hl.1 rfl (lv_room (Nat.le_of_ble_eq_true rfl)) dX7_readLine_76 ⟨Nat.le_of_ble_eq_true rfl, Nat.le_of_ble_eq_true rfl⟩) hS (fun q _ h => hFc q h) hFc (fun u t H locs ht hvm hw hB hz1 hk1 hS => ?_)
        refine ex_13_9 hB (fun x_6850 x_6851 x_6852 x_6853 x_6854 x_6855 x_6856 x_6857 x_6858 f_6859 f_6860 f_6861 f_6862 b_x_6851 b_x_6854 b_x_6857 e_x_6850_0 e_x_6850_1 e_x_6850_2 e_x_6850_3 e_x_6850_4 e_x_6850_5 hB => ?_)
        obtain ⟨hP, hD⟩ := Bw.goA (ws' := [(oc7 oM iM_thrown rM_tape iM_taped iM_size x_6850 x_6851 x_6852 x_6853 x_6854 x_6855 x_6856 iM_trouble rM_letters x_6857 iM_hasCourt rM_r rM_fresh rM_told rM_read rM_st rM_undone rM_kept iM_undos iM_images rM_fresher x_6858 iM_scale iM_night rM_heardRow rM_cutRow iM_breaths iM_cutMany iM_allBreaths rM_trial rM_words iM_fewestBreaths iM_orderMany iM_orderSum iM_leastOrder rM_often iM_setMany iM_someOf iM_allOf iM_allWeight iM_enoughWeight iM_worthSum iM_firstRest iM_leastDrawn), (arI rM_tape kM_tape 900 fM_tape), (arI rM_letters kM_letters 8 f_6859), (arI rM_fresh kM_fresh 287 f_6860), (arI rM_read kM_read 90 f_6861), (arI rM_fresher kM_fresher 8 f_6862)]) hB rfl ht hFc rfl
        clear hz1 hk1 hvm ht hB
        have pl_f_6860 := e_x_6850_4.lins
        have hG := hG.trans (un13_eq e_x_6850_5)
        clear e_x_6639_1
        clear e_x_6639_4
        refine lv_goto (tgt := 233) hx hb dX7_readLine_79 (by decide) ?_
        exact wq_v hx hb hr 0 trivial (fun t ht hW => ⟨x_6850, x_6851, x_6852, x_6853, x_6854, x_6855, x_6856, x_6857, x_6858, f_6859, f_6860, f_6861, f_6862, b_x_6851, b_x_6854, b_x_6857, (om_622f2a87 e_x_6625_0 e_x_6639_0 e_x_6850_0), e_x_6850_1, (om_622f2a87 e_x_6625_2 e_x_6639_2 e_x_6850_2), (fun h9 => (om_2d38588c e_x_6625_0 e_x_6639_0 (e_x_6850_3 ⟨h9.1, h9.2⟩))), e_x_6850_4, hG, Bw.to hP hD hK ht hW⟩) hS dX7_readLine_233 hlocks
    · skip
      have hG := hG.trans (if_neg c_6635)
      have gc_6635 := ti_ne c_6635 rfl kc_0
      replace gc_6635 : (-1) * x_6634.toInt + 1 ≤ 0 := om_e3003f79 gc_6635 dx_6634.1
      have h_6863 := e_x_6625_3 (by omega)
      clear e_x_6625_3
      refine lv_aload_n hx hb dX7_readLine_41 rfl (lv_at hl 0 rfl) ?_
      have hFc := va_freeI hD hS hA
      refine va_callv (va_runV (As := []) (rest := []) ⟨hx, hb, hml, hown, hts⟩ (tX7_wordLine l dC dI _ oM iM_thrown rM_tape fM_tape kM_tape iM_taped iM_size x_6625 x_6626 x_6627 x_6628 x_6629 x_6630 x_6631 iM_trouble rM_letters f_6633 kM_letters x_6632 iM_hasCourt rM_r rM_fresh fM_fresh kM_fresh rM_told rM_read fM_read kM_read rM_st rM_undone rM_kept iM_undos iM_images rM_fresher fM_fresher kM_fresher iM_fresherSize iM_scale iM_night rM_heardRow rM_cutRow iM_breaths iM_cutMany iM_allBreaths rM_trial rM_words iM_fewestBreaths iM_orderMany iM_orderSum iM_leastOrder rM_often iM_setMany iM_someOf iM_allOf iM_allWeight iM_enoughWeight iM_worthSum iM_firstRest iM_leastDrawn b_iM_taped b_iM_size b_x_6626 b_x_6629 b_x_6632 b_iM_hasCourt b_iM_undos b_iM_images b_iM_scale b_iM_breaths b_iM_cutMany e_x_6625_1 r_P (by intro h9; have q0 := kc_0; have q1 := kc_1; have q2 := kc_2; have q3 := kc_3; omega)) (cwV 0 hts (wd_V wd_458 wd_459 wd_460 wd_5 (wd_c wd_461)) rfl rfl rfl dv_yX7_wordLine_0 ⟨Nat.le_of_ble_eq_true rfl, Nat.le_of_ble_eq_true rfl⟩) ⟨Pw.fb, recvX7 hK hP (q0 := 0) rfl, fun U hU hW => Pw.to hP hD hK hE hS hFc hU hW⟩ rfl rfl hl.1 rfl (lv_room (Nat.le_of_ble_eq_true rfl)) dX7_readLine_42 ⟨Nat.le_of_ble_eq_true rfl, Nat.le_of_ble_eq_true rfl⟩) hS (fun q _ h => hFc q h) hFc (fun u t H locs ht hvm hw hB hz1 hk1 hS => ?_)
      refine ex_13_9 hB (fun x_6864 x_6865 x_6866 x_6867 x_6868 x_6869 x_6870 x_6871 x_6872 f_6873 f_6874 f_6875 f_6876 b_x_6865 b_x_6868 b_x_6871 e_x_6864_0 e_x_6864_1 e_x_6864_2 e_x_6864_3 e_x_6864_4 e_x_6864_5 hB => ?_)
      obtain ⟨hP, hD⟩ := Bw.goA (ws' := [(oc7 oM iM_thrown rM_tape iM_taped iM_size x_6864 x_6865 x_6866 x_6867 x_6868 x_6869 x_6870 iM_trouble rM_letters x_6871 iM_hasCourt rM_r rM_fresh rM_told rM_read rM_st rM_undone rM_kept iM_undos iM_images rM_fresher x_6872 iM_scale iM_night rM_heardRow rM_cutRow iM_breaths iM_cutMany iM_allBreaths rM_trial rM_words iM_fewestBreaths iM_orderMany iM_orderSum iM_leastOrder rM_often iM_setMany iM_someOf iM_allOf iM_allWeight iM_enoughWeight iM_worthSum iM_firstRest iM_leastDrawn), (arI rM_tape kM_tape 900 fM_tape), (arI rM_letters kM_letters 8 f_6873), (arI rM_fresh kM_fresh 287 f_6874), (arI rM_read kM_read 90 f_6875), (arI rM_fresher kM_fresher 8 f_6876)]) hB rfl ht hFc rfl
      clear hz1 hk1 hvm ht hB
      have pl_f_6874 := e_x_6864_4.lins
      have hG := hG.trans (un13_eq e_x_6864_5)
      clear e_x_6625_1
      clear e_x_6625_4
      refine lv_goto (tgt := 233) hx hb dX7_readLine_45 (by decide) ?_
      exact wq_v hx hb hr 0 trivial (fun t ht hW => ⟨x_6864, x_6865, x_6866, x_6867, x_6868, x_6869, x_6870, x_6871, x_6872, f_6873, f_6874, f_6875, f_6876, b_x_6865, b_x_6868, b_x_6871, (om_9348f5ae e_x_6625_0 e_x_6864_0), e_x_6864_1, (om_9348f5ae e_x_6625_2 e_x_6864_2), (fun h9 => (om_7ed234da e_x_6625_0 (e_x_6864_3 ⟨h9.1, h9.2⟩))), e_x_6864_4, hG, Bw.to hP hD hK ht hW⟩) hS dX7_readLine_233 hlocks
  · skip
    have hG := hG.trans (if_neg c_6621)
    have gc_6621 := ti_ne c_6621 rfl kc_0
    replace gc_6621 : (-1) * x_6620.toInt + 1 ≤ 0 := om_e3003f79 gc_6621 dx_6620.1
    have h_6877 : iM_token.toInt = 2 := lx_6620 (om_7907a7c1 dx_6620.2 gc_6621)
    clear lx_6620
    have h_6878 : iM_nameSize.toInt ≤ 8 := r_T h_6877
    clear r_T
    refine lv_aload_n hx hb dX7_readLine_9 rfl (lv_at hl 0 rfl) ?_
    have hMs := ml_of hD [true, true, true, true, true, false] (wc := [(oc7 oM iM_thrown rM_tape iM_taped iM_size iM_at iM_end iM_token iM_whole iM_nameSize iM_fault iM_place iM_trouble rM_letters iM_failed iM_hasCourt rM_r rM_fresh rM_told rM_read rM_st rM_undone rM_kept iM_undos iM_images rM_fresher iM_fresherSize iM_scale iM_night rM_heardRow rM_cutRow iM_breaths iM_cutMany iM_allBreaths rM_trial rM_words iM_fewestBreaths iM_orderMany iM_orderSum iM_leastOrder rM_often iM_setMany iM_someOf iM_allOf iM_allWeight iM_enoughWeight iM_worthSum iM_firstRest iM_leastDrawn), (arI rM_tape kM_tape 900 fM_tape), (arI rM_letters kM_letters 8 fM_letters), (arI rM_fresh kM_fresh 287 fM_fresh), (arI rM_read kM_read 90 fM_read)]) rfl
    have hFc := va_freeM hD hS hA _ hMs
    refine va_callv (va_runV (As := []) (rest := []) ⟨hx, hb, hml, hown, hts⟩ (tX7_courtLine l dC dI _ oM iM_thrown rM_tape fM_tape kM_tape iM_taped iM_size iM_at iM_end iM_token iM_whole iM_nameSize iM_fault iM_place iM_trouble rM_letters fM_letters kM_letters iM_failed iM_hasCourt rM_r rM_fresh fM_fresh kM_fresh rM_told rM_read fM_read kM_read rM_st rM_undone rM_kept iM_undos iM_images rM_fresher iM_fresherSize iM_scale iM_night rM_heardRow rM_cutRow iM_breaths iM_cutMany iM_allBreaths rM_trial rM_words iM_fewestBreaths iM_orderMany iM_orderSum iM_leastOrder rM_often iM_setMany iM_someOf iM_allOf iM_allWeight iM_enoughWeight iM_worthSum iM_firstRest iM_leastDrawn b_iM_taped b_iM_size b_iM_end b_iM_nameSize b_iM_failed b_iM_hasCourt b_iM_undos b_iM_images b_iM_scale b_iM_breaths b_iM_cutMany (fun h9 => h_6878) r_P) (cwV 0 hts (wd_V wd_426 wd_427 wd_428 wd_5 (wd_c wd_429)) rfl rfl rfl dv_yX7_courtLine_0 ⟨Nat.le_of_ble_eq_true rfl, Nat.le_of_ble_eq_true rfl⟩) ⟨Pw.fb, recvX7 hK hP (q0 := 0) rfl, fun U hU hW => Pw.to (hP.ms _ hMs) (hD.ms _ hMs) (hK.ms [true, true, true, true, false] rfl) hE hS hFc hU hW⟩ rfl rfl hl.1 rfl (lv_room (Nat.le_of_ble_eq_true rfl)) dX7_readLine_10 ⟨Nat.le_of_ble_eq_true rfl, Nat.le_of_ble_eq_true rfl⟩) hS (fun q _ h => hFc q h) hFc (fun u t H locs ht hvm hw hB hz1 hk1 hS => ?_)
    refine ex_10_9 hB (fun x_6879 x_6880 x_6881 x_6882 x_6883 x_6884 x_6885 x_6886 f_6887 f_6888 b_x_6880 b_x_6883 b_x_6886 e_x_6879_0 e_x_6879_1 e_x_6879_2 e_x_6879_3 e_x_6879_4 e_x_6879_5 hB => ?_)
    obtain ⟨hP, hD⟩ := Bw.goN (ws' := [(oc7 oM iM_thrown rM_tape iM_taped iM_size x_6879 x_6880 x_6881 x_6882 x_6883 x_6884 x_6885 iM_trouble rM_letters x_6886 iM_hasCourt rM_r rM_fresh rM_told rM_read rM_st rM_undone rM_kept iM_undos iM_images rM_fresher iM_fresherSize iM_scale iM_night rM_heardRow rM_cutRow iM_breaths iM_cutMany iM_allBreaths rM_trial rM_words iM_fewestBreaths iM_orderMany iM_orderSum iM_leastOrder rM_often iM_setMany iM_someOf iM_allOf iM_allWeight iM_enoughWeight iM_worthSum iM_firstRest iM_leastDrawn), (arI rM_tape kM_tape 900 fM_tape), (arI rM_letters kM_letters 8 f_6887), (arI rM_fresh kM_fresh 287 f_6888), (arI rM_read kM_read 90 fM_read), (arI rM_fresher kM_fresher 8 fM_fresher)]) hB rfl ht hP hD _ hMs hk1 hFc rfl
    clear hz1 hk1 hvm ht hB hMs
    have pl_f_6888 := e_x_6879_4.lins
    have hG := hG.trans (un10_eq e_x_6879_5)
    refine lv_goto (tgt := 233) hx hb dX7_readLine_13 (by decide) ?_
    exact wq_v hx hb hr 0 trivial (fun t ht hW => ⟨x_6879, x_6880, x_6881, x_6882, x_6883, x_6884, x_6885, x_6886, iM_fresherSize, f_6887, f_6888, fM_read, fM_fresher, b_x_6880, b_x_6883, b_x_6886, e_x_6879_0, e_x_6879_1, e_x_6879_2, e_x_6879_3, e_x_6879_4, hG, Bw.to hP hD hK ht hW⟩) hS dX7_readLine_233 hlocks
