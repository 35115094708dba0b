set_option maxHeartbeats 4000000 in
set_option maxRecDepth 100000 in
theorem tX7_readLine (l : Launch) (dC : Nat → ClassId) (dI : Nat → Nat → Nat) (sz : Nat) (oM : Nat) (iM_thrown : Int32) (rM_tape : Nat) (fM_tape : Nat → Int32) (kM_tape : ClassId) (iM_taped : Int32) (iM_size : Int32) (iM_at : Int32) (iM_end : Int32) (iM_token : Int32) (iM_whole : Int32) (iM_nameSize : Int32) (iM_fault : Int32) (iM_place : Int32) (iM_trouble : Int32) (rM_letters : Nat) (fM_letters : Nat → Int32) (kM_letters : ClassId) (iM_failed : Int32) (iM_hasCourt : Int32) (rM_r : Nat) (rM_fresh : Nat) (fM_fresh : Nat → Int32) (kM_fresh : ClassId) (rM_told : Nat) (rM_read : Nat) (fM_read : Nat → Int32) (kM_read : ClassId) (rM_st : Nat) (rM_undone : Nat) (rM_kept : Nat) (iM_undos : Int32) (iM_images : Int32) (rM_fresher : Nat) (fM_fresher : Nat → Int32) (kM_fresher : ClassId) (iM_fresherSize : Int32) (iM_scale : Int32) (iM_night : Int32) (rM_heardRow : Nat) (rM_cutRow : Nat) (iM_breaths : Int32) (iM_cutMany : Int32) (iM_allBreaths : Int32) (rM_trial : Nat) (rM_words : Nat) (iM_fewestBreaths : Int32) (iM_orderMany : Int32) (iM_orderSum : Int32) (iM_leastOrder : Int32) (rM_often : Nat) (iM_setMany : Int32) (iM_someOf : Int32) (iM_allOf : Int32) (iM_allWeight : Int64) (iM_enoughWeight : Int64) (iM_worthSum : Int64) (iM_firstRest : Int32) (iM_leastDrawn : Int32) (b_iM_taped : 0 ≤ iM_taped.toInt ∧ iM_taped.toInt ≤ 900) (b_iM_size : 0 ≤ iM_size.toInt ∧ iM_size.toInt ≤ 900) (b_iM_end : 0 ≤ iM_end.toInt ∧ iM_end.toInt ≤ 900) (b_iM_nameSize : 0 ≤ iM_nameSize.toInt ∧ iM_nameSize.toInt ≤ 900) (b_iM_failed : 0 ≤ iM_failed.toInt ∧ iM_failed.toInt ≤ 1) (b_iM_hasCourt : 0 ≤ iM_hasCourt.toInt ∧ iM_hasCourt.toInt ≤ 1) (b_iM_undos : 0 ≤ iM_undos.toInt ∧ iM_undos.toInt ≤ 16) (b_iM_images : 0 ≤ iM_images.toInt ∧ iM_images.toInt ≤ 3) (b_iM_scale : 1 ≤ iM_scale.toInt ∧ iM_scale.toInt ≤ 1296) (b_iM_breaths : 0 ≤ iM_breaths.toInt ∧ iM_breaths.toInt ≤ 399) (b_iM_cutMany : 0 ≤ iM_cutMany.toInt ∧ iM_cutMany.toInt ≤ 399) (r_T : ImpP (iM_token.toInt = 2) (iM_nameSize.toInt ≤ 8)) (r_P : POk fM_fresh fM_read)  : Met l yX7_readLine (Cond.code yX7_readLine cX7_readLine 1 none :: wG) ({ frames := 9, cells := 0, slots := 0, locals := 220 }) (va_Pc [.ref oM] (Pw dC dI sz [(oc7 oM iM_thrown rM_tape iM_taped iM_size iM_at iM_end iM_token iM_whole iM_nameSize iM_fault iM_place iM_trouble rM_letters iM_failed iM_hasCourt rM_r rM_fresh rM_told rM_read rM_st rM_undone rM_kept iM_undos iM_images rM_fresher iM_fresherSize iM_scale iM_night rM_heardRow rM_cutRow iM_breaths iM_cutMany iM_allBreaths rM_trial rM_words iM_fewestBreaths iM_orderMany iM_orderSum iM_leastOrder rM_often iM_setMany iM_someOf iM_allOf iM_allWeight iM_enoughWeight iM_worthSum iM_firstRest iM_leastDrawn), (arI rM_tape kM_tape 900 fM_tape), (arI rM_letters kM_letters 8 fM_letters), (arI rM_fresh kM_fresh 287 fM_fresh), (arI rM_read kM_read 90 fM_read), (arI rM_fresher kM_fresher 8 fM_fresher)] [(kM_tape, .int), (kM_letters, .int), (kM_fresh, .int), (kM_read, .int), (kM_fresher, .int)])) (va_Qv (fun (_ : Nat) => True) (fun (_ : Nat) (t : State) => ∃ (niM_at : Int32) (niM_end : Int32) (niM_token : Int32) (niM_whole : Int32) (niM_nameSize : Int32) (niM_fault : Int32) (niM_place : Int32) (niM_failed : Int32) (niM_fresherSize : Int32) (nfM_letters : Nat → Int32) (nfM_fresh : Nat → Int32) (nfM_read : Nat → Int32) (nfM_fresher : Nat → Int32), (0 ≤ niM_end.toInt ∧ niM_end.toInt ≤ 900) ∧ (0 ≤ niM_nameSize.toInt ∧ niM_nameSize.toInt ≤ 900) ∧ (0 ≤ niM_failed.toInt ∧ niM_failed.toInt ≤ 1) ∧ (iM_end.toInt ≤ niM_end.toInt) ∧ (ImpP (niM_token.toInt = 2) (niM_nameSize.toInt ≤ 8)) ∧ (iM_failed.toInt ≤ niM_failed.toInt) ∧ (ImpP (niM_failed.toInt ≤ 0 ∧ niM_token.toInt = 59 ) (iM_end.toInt + 1 ≤ niM_end.toInt)) ∧ (POk nfM_fresh nfM_read) ∧ (PX7_readLine fM_tape iM_size iM_at iM_end iM_token iM_whole iM_nameSize iM_fault iM_place fM_letters iM_failed fM_fresh fM_read fM_fresher iM_fresherSize = (niM_at, niM_end, niM_token, niM_whole, niM_nameSize, niM_fault, niM_place, niM_failed, niM_fresherSize, nfM_letters, nfM_fresh, nfM_read, nfM_fresher)) ∧ Bw dC dI (va_A [(oc7 oM iM_thrown rM_tape iM_taped iM_size iM_at iM_end iM_token iM_whole iM_nameSize iM_fault iM_place iM_trouble rM_letters iM_failed iM_hasCourt rM_r rM_fresh rM_told rM_read rM_st rM_undone rM_kept iM_undos iM_images rM_fresher iM_fresherSize iM_scale iM_night rM_heardRow rM_cutRow iM_breaths iM_cutMany iM_allBreaths rM_trial rM_words iM_fewestBreaths iM_orderMany iM_orderSum iM_leastOrder rM_often iM_setMany iM_someOf iM_allOf iM_allWeight iM_enoughWeight iM_worthSum iM_firstRest iM_leastDrawn), (arI rM_tape kM_tape 900 fM_tape), (arI rM_letters kM_letters 8 fM_letters), (arI rM_fresh kM_fresh 287 fM_fresh), (arI rM_read kM_read 90 fM_read), (arI rM_fresher kM_fresher 8 fM_fresher)] sz) [(oc7 oM iM_thrown rM_tape iM_taped iM_size niM_at niM_end niM_token niM_whole niM_nameSize niM_fault niM_place iM_trouble rM_letters niM_failed iM_hasCourt rM_r rM_fresh rM_told rM_read rM_st rM_undone rM_kept iM_undos iM_images rM_fresher niM_fresherSize iM_scale iM_night rM_heardRow rM_cutRow iM_breaths iM_cutMany iM_allBreaths rM_trial rM_words iM_fewestBreaths iM_orderMany iM_orderSum iM_leastOrder rM_often iM_setMany iM_someOf iM_allOf iM_allWeight iM_enoughWeight iM_worthSum iM_firstRest iM_leastDrawn), (arI rM_tape kM_tape 900 fM_tape), (arI rM_letters kM_letters 8 nfM_letters), (arI rM_fresh kM_fresh 287 nfM_fresh), (arI rM_read kM_read 90 nfM_read), (arI rM_fresher kM_fresher 8 nfM_fresher)] [(kM_tape, .int), (kM_letters, .int), (kM_fresh, .int), (kM_read, .int), (kM_fresher, .int)] t) (va_A [(oc7 oM iM_thrown rM_tape iM_taped iM_size iM_at iM_end iM_token iM_whole iM_nameSize iM_fault iM_place iM_trouble rM_letters iM_failed iM_hasCourt rM_r rM_fresh rM_told rM_read rM_st rM_undone rM_kept iM_undos iM_images rM_fresher iM_fresherSize iM_scale iM_night rM_heardRow rM_cutRow iM_breaths iM_cutMany iM_allBreaths rM_trial rM_words iM_fewestBreaths iM_orderMany iM_orderSum iM_leastOrder rM_often iM_setMany iM_someOf iM_allOf iM_allWeight iM_enoughWeight iM_worthSum iM_firstRest iM_leastDrawn), (arI rM_tape kM_tape 900 fM_tape), (arI rM_letters kM_letters 8 fM_letters), (arI rM_fresh kM_fresh 287 fM_fresh), (arI rM_read kM_read 90 fM_read), (arI rM_fresher kM_fresher 8 fM_fresher)] sz)) 0 0 (va_A [(oc7 oM iM_thrown rM_tape iM_taped iM_size iM_at iM_end iM_token iM_whole iM_nameSize iM_fault iM_place iM_trouble rM_letters iM_failed iM_hasCourt rM_r rM_fresh rM_told rM_read rM_st rM_undone rM_kept iM_undos iM_images rM_fresher iM_fresherSize iM_scale iM_night rM_heardRow rM_cutRow iM_breaths iM_cutMany iM_allBreaths rM_trial rM_words iM_fewestBreaths iM_orderMany iM_orderSum iM_leastOrder rM_often iM_setMany iM_someOf iM_allOf iM_allWeight iM_enoughWeight iM_worthSum iM_firstRest iM_leastDrawn), (arI rM_tape kM_tape 900 fM_tape), (arI rM_letters kM_letters 8 fM_letters), (arI rM_fresh kM_fresh 287 fM_fresh), (arI rM_read kM_read 90 fM_read), (arI rM_fresher kM_fresher 8 fM_fresher)] sz) := by
  refine Met.ofW (cc := cX7_readLine) (maxL := 1) (ret := none) pnX7 rfl ?_
  intro p e s m args below meth c s₁ B hml hv
  obtain ⟨rfl, hsz, hP, hK, hD0, hE⟩ := hv
  have hx := B.exec
  have hb := B.bytes
  have hr := B.returns
  have hts : ∀ w ∈ wG, w.before ([.ref oM] : List Value).toArray s = true := fun w h => atoms_spec (ws := Cond.code yX7_readLine cX7_readLine 1 none :: wG) B.pre w (List.mem_cons_of_mem _ h)
  have hown : s.vm.findClass RX7 = some m.cls := own_of B.named rfl
  have hlocks := B.notSynchronized
  subst hsz
  have hD := hD0.self (sz := s.heap.size)
  generalize hAe : va_A [(oc7 oM iM_thrown rM_tape iM_taped iM_size iM_at iM_end iM_token iM_whole iM_nameSize iM_fault iM_place iM_trouble rM_letters iM_failed iM_hasCourt rM_r rM_fresh rM_told rM_read rM_st rM_undone rM_kept iM_undos iM_images rM_fresher iM_fresherSize iM_scale iM_night rM_heardRow rM_cutRow iM_breaths iM_cutMany iM_allBreaths rM_trial rM_words iM_fewestBreaths iM_orderMany iM_orderSum iM_leastOrder rM_often iM_setMany iM_someOf iM_allOf iM_allWeight iM_enoughWeight iM_worthSum iM_firstRest iM_leastDrawn), (arI rM_tape kM_tape 900 fM_tape), (arI rM_letters kM_letters 8 fM_letters), (arI rM_fresh kM_fresh 287 fM_fresh), (arI rM_read kM_read 90 fM_read), (arI rM_fresher kM_fresher 8 fM_fresher)] s.heap.size = A at hD hE ⊢
  have hA : ∀ q : Nat, s.heap.size ≤ q → A q := fun q h => by rw [← hAe]; exact Or.inr h
  have hS : va_S A s.heap s.heap [] := va_S.rf
  have hl := lv_entry ([.ref oM]) (n := 1) (Nat.le_of_ble_eq_true rfl)
  rw [lg_entry_eq]
  generalize (lg_sl ([.ref oM]) ++ List.replicate (1 - (lg_sl ([.ref oM])).length) Slot.unset).toArray = ls at hl ⊢
  have hl : lv_has ls 1 [(0, .ref oM)] := hl
  have hG := PX7_readLine_eq fM_tape iM_size iM_at iM_end iM_token iM_whole iM_nameSize iM_fault iM_place fM_letters iM_failed fM_fresh fM_read fM_fresher iM_fresherSize
  have pl_fM_fresh := r_P.lins
  refine lv_aload_n hx hb dX7_readLine_0 rfl (lv_at hl 0 rfl) ?_
  obtain ⟨sa_6603, vsa_6603, nsa_6603, fsa_6603, hnsa_6603, hnesa_6603, hfesa_6603, hRsa_6603, hSsa_6603⟩ := hE.2.2.1 (134, "court", [99, 111, 117, 114, 116]) (by decide)
  have hG := hG.trans (lt_eq hnesa_6603)
  have hG := hG.trans (lt_eq hfesa_6603)
  refine va_ldcS hx hb hown hRsa_6603 dX7_readLine_1 ?_
  have hMs := ml_of hD [true, false, true, false, false, false] (wc := [(oc7 oM iM_thrown rM_tape iM_taped iM_size iM_at iM_end iM_token iM_whole iM_nameSize iM_fault iM_place iM_trouble rM_letters iM_failed iM_hasCourt rM_r rM_fresh rM_told rM_read rM_st rM_undone rM_kept iM_undos iM_images rM_fresher iM_fresherSize iM_scale iM_night rM_heardRow rM_cutRow iM_breaths iM_cutMany iM_allBreaths rM_trial rM_words iM_fewestBreaths iM_orderMany iM_orderSum iM_leastOrder rM_often iM_setMany iM_someOf iM_allOf iM_allWeight iM_enoughWeight iM_worthSum iM_firstRest iM_leastDrawn), (arI rM_letters kM_letters 8 fM_letters)]) rfl
  have hFc := va_freeM hD hS hA _ hMs
  refine va_calli (va_runV (As := [.ref sa_6603]) (rest := []) ⟨hx, hb, hml, hown, hts⟩ (tX7_isWord l dC dI _ oM iM_thrown rM_tape iM_taped iM_size iM_at iM_end iM_token iM_whole iM_nameSize iM_fault iM_place iM_trouble rM_letters fM_letters kM_letters iM_failed iM_hasCourt rM_r rM_fresh rM_told rM_read rM_st rM_undone rM_kept iM_undos iM_images rM_fresher iM_fresherSize iM_scale iM_night rM_heardRow rM_cutRow iM_breaths iM_cutMany iM_allBreaths rM_trial rM_words iM_fewestBreaths iM_orderMany iM_orderSum iM_leastOrder rM_often iM_setMany iM_someOf iM_allOf iM_allWeight iM_enoughWeight iM_worthSum iM_firstRest iM_leastDrawn sa_6603 vsa_6603 nsa_6603 fsa_6603 b_iM_taped b_iM_size b_iM_end b_iM_nameSize b_iM_failed b_iM_hasCourt b_iM_undos b_iM_images b_iM_scale b_iM_breaths b_iM_cutMany r_T (Nat.le_trans (Nat.le_of_eq hnesa_6603) (by decide))) (cwV 1 hts (wd_V wd_420 wd_421 wd_422 wd_5 (wd_c wd_423)) rfl rfl rfl dv_yX7_isWord_1 ⟨Nat.le_of_ble_eq_true rfl, Nat.le_of_ble_eq_true rfl⟩) ⟨Pq.fb, recvX7 hK hP (q0 := 0) rfl, fun U hU hW => Pq.to (hP.ms _ hMs) (hD.ms _ hMs) (hK.ms [false, true, false, false, false] rfl) hSsa_6603 hE hS hFc hU hW⟩ rfl rfl hl.1 rfl (lv_room (Nat.le_of_ble_eq_true rfl)) dX7_readLine_3 ⟨Nat.le_of_ble_eq_true rfl, Nat.le_of_ble_eq_true rfl⟩) hS (fun q _ h => hFc q h) hFc (fun r u t H locs ht hvm hw hB hz1 hk1 hS => ?_)
  have hru9 := hw.2
  have hw := hw.1
  obtain ⟨hP, hD⟩ := Bw.goN (ws' := [(oc7 oM iM_thrown rM_tape iM_taped iM_size iM_at iM_end iM_token iM_whole iM_nameSize iM_fault iM_place iM_trouble rM_letters iM_failed iM_hasCourt rM_r rM_fresh rM_told rM_read rM_st rM_undone rM_kept iM_undos iM_images rM_fresher iM_fresherSize iM_scale iM_night rM_heardRow rM_cutRow iM_breaths iM_cutMany iM_allBreaths rM_trial rM_words iM_fewestBreaths iM_orderMany iM_orderSum iM_leastOrder rM_often iM_setMany iM_someOf iM_allOf iM_allWeight iM_enoughWeight iM_worthSum iM_firstRest iM_leastDrawn), (arI rM_tape kM_tape 900 fM_tape), (arI rM_letters kM_letters 8 fM_letters), (arI rM_fresh kM_fresh 287 fM_fresh), (arI rM_read kM_read 90 fM_read), (arI rM_fresher kM_fresher 8 fM_fresher)]) hB rfl ht hP hD _ hMs hk1 hFc rfl
  clear hz1 hk1 hvm ht hB hMs
  obtain ⟨x_6604, rfl⟩ : ∃ z, z = r := ⟨_, rfl⟩
  have hG := hG.trans (lt_eq hru9.symm)
  have bx_6604 := hw.1
  have dx_6604 := bz_tb bx_6604
  have lx_6604 := hw.2
  refine lv_if_eq (tgt := 16) hx hb dX7_readLine_6 (by decide) (fun c_6605 => ?_) (fun c_6605 => ?_)
  · skip
    have hG := hG.trans (if_pos c_6605)
    have gc_6605 := ti_eq c_6605 rfl kc_0
    clear lx_6604
    refine lv_aload_n hx hb dX7_readLine_16 rfl (lv_at hl 0 rfl) ?_
    obtain ⟨sa_6606, vsa_6606, nsa_6606, fsa_6606, hnsa_6606, hnesa_6606, hfesa_6606, hRsa_6606, hSsa_6606⟩ := hE.2.2.1 (136, "word", [119, 111, 114, 100]) (by decide)
    have hG := hG.trans (lt_eq hnesa_6606)
    have hG := hG.trans (lt_eq hfesa_6606)
    refine va_ldcS hx hb hown hRsa_6606 dX7_readLine_17 ?_
    refine lv_aload_n hx hb dX7_readLine_19 rfl (lv_at hl 0 rfl) ?_
    refine va_get (D := (dC, dI)) (ci := 7) (v := .ref rM_fresh) (C := RX7) (T := TX7) (N := 48) hx hb hts inX7 hown hK hP 0 rfl rfl 16 (by decide) (hts _ wd_156) (fun _ h9 => h9) rfl dX7_readLine_20 ?_
    refine lv_iconst (v := 2) hx hb dX7_readLine_23 (by decide) ?_
    refine va_iald hx hb hK hP 3 2 rfl rfl (by unfold vp_in; decide) dX7_readLine_24 ?_
    refine lv_topi (fun x_6607 ex_6607 => ?_)
    have hG := hG.trans (lt_eq ex_6607)
    have cx_6607 : (fM_fresh 2).toInt = x_6607.toInt := congrArg Int32.toInt (show fM_fresh 2 = x_6607 from ex_6607.symm)
    refine lv_bipush (v := 10) hx hb dX7_readLine_25 (by decide) ?_
    refine vz_jgeX hx hb dX7_readLine_27 dX7_readLine_30 dX7_readLine_31 dX7_readLine_34 (fun x_6608 ex_6608 b_x_6608 j_x_6608 => ?_)
    have hG := hG.trans (lt_eq ex_6608)
    have j_x_6608 : 1 ≤ x_6608.toInt → x_6607.toInt < 10 := fun h9 => by have h8 := j_x_6608 h9; rw [kc_10] at h8; exact h8
    have hMs := ml_of hD [true, true, true, true, true, false] (wc := [(oc7 oM iM_thrown rM_tape iM_taped iM_size iM_at iM_end iM_token iM_whole iM_nameSize iM_fault iM_place iM_trouble rM_letters iM_failed iM_hasCourt rM_r rM_fresh rM_told rM_read rM_st rM_undone rM_kept iM_undos iM_images rM_fresher iM_fresherSize iM_scale iM_night rM_heardRow rM_cutRow iM_breaths iM_cutMany iM_allBreaths rM_trial rM_words iM_fewestBreaths iM_orderMany iM_orderSum iM_leastOrder rM_often iM_setMany iM_someOf iM_allOf iM_allWeight iM_enoughWeight iM_worthSum iM_firstRest iM_leastDrawn), (arI rM_tape kM_tape 900 fM_tape), (arI rM_letters kM_letters 8 fM_letters), (arI rM_fresh kM_fresh 287 fM_fresh), (arI rM_read kM_read 90 fM_read)]) rfl
    have hFc := va_freeM hD hS hA _ hMs
    refine va_calli (va_runV (As := [.ref sa_6606, .int x_6608]) (rest := []) ⟨hx, hb, hml, hown, hts⟩ (tX7_begins l dC dI _ oM iM_thrown rM_tape fM_tape kM_tape iM_taped iM_size iM_at iM_end iM_token iM_whole iM_nameSize iM_fault iM_place iM_trouble rM_letters fM_letters kM_letters iM_failed iM_hasCourt rM_r rM_fresh fM_fresh kM_fresh rM_told rM_read fM_read kM_read rM_st rM_undone rM_kept iM_undos iM_images rM_fresher iM_fresherSize iM_scale iM_night rM_heardRow rM_cutRow iM_breaths iM_cutMany iM_allBreaths rM_trial rM_words iM_fewestBreaths iM_orderMany iM_orderSum iM_leastOrder rM_often iM_setMany iM_someOf iM_allOf iM_allWeight iM_enoughWeight iM_worthSum iM_firstRest iM_leastDrawn sa_6606 x_6608 vsa_6606 nsa_6606 fsa_6606 b_iM_taped b_iM_size b_iM_end b_iM_nameSize b_iM_failed b_iM_hasCourt b_iM_undos b_iM_images b_iM_scale b_iM_breaths b_iM_cutMany r_T r_P (Nat.le_trans (Nat.le_of_eq hnesa_6606) (by decide)) (by first | assumption | (have q0 := kc_0; have q1 := kc_1; first | exact ⟨by omega, by omega⟩ | omega) | decide | (intro h; exact absurd h (by decide)))) (cwV 2 hts (wd_V wd_450 wd_451 wd_452 wd_5 (wd_c wd_453)) rfl rfl rfl dv_yX7_begins_2 ⟨Nat.le_of_ble_eq_true rfl, Nat.le_of_ble_eq_true rfl⟩) ⟨Pq.fb, recvX7 hK hP (q0 := 0) rfl, fun U hU hW => Pq.to (hP.ms _ hMs) (hD.ms _ hMs) (hK.ms [true, true, true, true, false] rfl) hSsa_6606 hE hS hFc hU hW⟩ rfl rfl hl.1 rfl (lv_room (Nat.le_of_ble_eq_true rfl)) dX7_readLine_35 ⟨Nat.le_of_ble_eq_true rfl, Nat.le_of_ble_eq_true rfl⟩) hS (fun q _ h => hFc q h) hFc (fun r u t H locs ht hvm hw hB hz1 hk1 hS => ?_)
    have hru9 := hw.2
    have hw := hw.1
    refine ex_9_9 hB (fun x_6609 x_6610 x_6611 x_6612 x_6613 x_6614 x_6615 x_6616 f_6617 b_x_6610 b_x_6613 b_x_6616 e_x_6609_0 e_x_6609_1 e_x_6609_2 e_x_6609_3 e_x_6609_4 e_x_6609_5 hB => ?_)
    obtain ⟨hP, hD⟩ := Bw.goN (ws' := [(oc7 oM iM_thrown rM_tape iM_taped iM_size x_6609 x_6610 x_6611 x_6612 x_6613 x_6614 x_6615 iM_trouble rM_letters x_6616 iM_hasCourt rM_r rM_fresh rM_told rM_read rM_st rM_undone rM_kept iM_undos iM_images rM_fresher iM_fresherSize iM_scale iM_night rM_heardRow rM_cutRow iM_breaths iM_cutMany iM_allBreaths rM_trial rM_words iM_fewestBreaths iM_orderMany iM_orderSum iM_leastOrder rM_often iM_setMany iM_someOf iM_allOf iM_allWeight iM_enoughWeight iM_worthSum iM_firstRest iM_leastDrawn), (arI rM_tape kM_tape 900 fM_tape), (arI rM_letters kM_letters 8 f_6617), (arI rM_fresh kM_fresh 287 fM_fresh), (arI rM_read kM_read 90 fM_read), (arI rM_fresher kM_fresher 8 fM_fresher)]) hB rfl ht hP hD _ hMs hk1 hFc rfl
    clear hz1 hk1 hvm ht hB hMs
    rw [← hru9] at e_x_6609_5
    obtain ⟨x_6618, rfl⟩ : ∃ z, z = r := ⟨_, rfl⟩
    have hG := hG.trans (un10_eq e_x_6609_5)
    have bx_6618 := hw.1
    have dx_6618 := bz_tb bx_6618
    have lx_6618 := hw.2
    clear r_T
    refine lv_if_eq (tgt := 48) hx hb dX7_readLine_38 (by decide) (fun c_6619 => ?_) (fun c_6619 => ?_)
    · skip
      have hG := hG.trans (if_pos c_6619)
      have gc_6619 := ti_eq c_6619 rfl kc_0
      clear e_x_6609_3
      refine lv_aload_n hx hb dX7_readLine_48 rfl (lv_at hl 0 rfl) ?_
      obtain ⟨sa_6620, vsa_6620, nsa_6620, fsa_6620, hnsa_6620, hnesa_6620, hfesa_6620, hRsa_6620, hSsa_6620⟩ := hE.2.2.1 (138, "king", [107, 105, 110, 103]) (by decide)
      have hG := hG.trans (lt_eq hnesa_6620)
      have hG := hG.trans (lt_eq hfesa_6620)
      refine va_ldcS hx hb hown hRsa_6620 dX7_readLine_49 ?_
      refine lv_aload_n hx hb dX7_readLine_51 rfl (lv_at hl 0 rfl) ?_
      refine va_get (D := (dC, dI)) (ci := 7) (v := .ref rM_fresh) (C := RX7) (T := TX7) (N := 48) hx hb hts inX7 hown hK hP 0 rfl rfl 16 (by decide) (hts _ wd_156) (fun _ h9 => h9) rfl dX7_readLine_52 ?_
      refine lv_bipush (v := 7) hx hb dX7_readLine_55 (by decide) ?_
      refine va_iald hx hb hK hP 3 2 rfl rfl (by unfold vp_in; decide) dX7_readLine_57 ?_
      refine lv_topi (fun x_6621 ex_6621 => ?_)
      have hG := hG.trans (lt_eq ex_6621)
      have cx_6621 : (fM_fresh 7).toInt = x_6621.toInt := congrArg Int32.toInt (show fM_fresh 7 = x_6621 from ex_6621.symm)
      refine lv_bipush (v := 8) hx hb dX7_readLine_58 (by decide) ?_
      refine vz_jgeX hx hb dX7_readLine_60 dX7_readLine_63 dX7_readLine_64 dX7_readLine_67 (fun x_6622 ex_6622 b_x_6622 j_x_6622 => ?_)
      have hG := hG.trans (lt_eq ex_6622)
      have j_x_6622 : 1 ≤ x_6622.toInt → x_6621.toInt < 8 := fun h9 => by have h8 := j_x_6622 h9; rw [kc_8] at h8; exact h8
      have hMs := ml_of hD [true, true, true, true, true, false] (wc := [(oc7 oM iM_thrown rM_tape iM_taped iM_size x_6609 x_6610 x_6611 x_6612 x_6613 x_6614 x_6615 iM_trouble rM_letters x_6616 iM_hasCourt rM_r rM_fresh rM_told rM_read rM_st rM_undone rM_kept iM_undos iM_images rM_fresher iM_fresherSize iM_scale iM_night rM_heardRow rM_cutRow iM_breaths iM_cutMany iM_allBreaths rM_trial rM_words iM_fewestBreaths iM_orderMany iM_orderSum iM_leastOrder rM_often iM_setMany iM_someOf iM_allOf iM_allWeight iM_enoughWeight iM_worthSum iM_firstRest iM_leastDrawn), (arI rM_tape kM_tape 900 fM_tape), (arI rM_letters kM_letters 8 f_6617), (arI rM_fresh kM_fresh 287 fM_fresh), (arI rM_read kM_read 90 fM_read)]) rfl
      have hFc := va_freeM hD hS hA _ hMs
      refine va_calli (va_runV (As := [.ref sa_6620, .int x_6622]) (rest := []) ⟨hx, hb, hml, hown, hts⟩ (tX7_begins l dC dI _ oM iM_thrown rM_tape fM_tape kM_tape iM_taped iM_size x_6609 x_6610 x_6611 x_6612 x_6613 x_6614 x_6615 iM_trouble rM_letters f_6617 kM_letters x_6616 iM_hasCourt rM_r rM_fresh fM_fresh kM_fresh rM_told rM_read fM_read kM_read rM_st rM_undone rM_kept iM_undos iM_images rM_fresher iM_fresherSize iM_scale iM_night rM_heardRow rM_cutRow iM_breaths iM_cutMany iM_allBreaths rM_trial rM_words iM_fewestBreaths iM_orderMany iM_orderSum iM_leastOrder rM_often iM_setMany iM_someOf iM_allOf iM_allWeight iM_enoughWeight iM_worthSum iM_firstRest iM_leastDrawn sa_6620 x_6622 vsa_6620 nsa_6620 fsa_6620 b_iM_taped b_iM_size b_x_6610 b_x_6613 b_x_6616 b_iM_hasCourt b_iM_undos b_iM_images b_iM_scale b_iM_breaths b_iM_cutMany e_x_6609_1 r_P (Nat.le_trans (Nat.le_of_eq hnesa_6620) (by decide)) (by first | assumption | (have q0 := kc_0; have q1 := kc_1; first | exact ⟨by omega, by omega⟩ | omega) | decide | (intro h; exact absurd h (by decide)))) (cwV 2 hts (wd_V wd_450 wd_451 wd_452 wd_5 (wd_c wd_453)) rfl rfl rfl dv_yX7_begins_2 ⟨Nat.le_of_ble_eq_true rfl, Nat.le_of_ble_eq_true rfl⟩) ⟨Pq.fb, recvX7 hK hP (q0 := 0) rfl, fun U hU hW => Pq.to (hP.ms _ hMs) (hD.ms _ hMs) (hK.ms [true, true, true, true, false] rfl) hSsa_6620 hE hS hFc hU hW⟩ rfl rfl hl.1 rfl (lv_room (Nat.le_of_ble_eq_true rfl)) dX7_readLine_68 ⟨Nat.le_of_ble_eq_true rfl, Nat.le_of_ble_eq_true rfl⟩) hS (fun q _ h => hFc q h) hFc (fun r u t H locs ht hvm hw hB hz1 hk1 hS => ?_)
      have hru9 := hw.2
      have hw := hw.1
      refine ex_9_9 hB (fun x_6623 x_6624 x_6625 x_6626 x_6627 x_6628 x_6629 x_6630 f_6631 b_x_6624 b_x_6627 b_x_6630 e_x_6623_0 e_x_6623_1 e_x_6623_2 e_x_6623_3 e_x_6623_4 e_x_6623_5 hB => ?_)
      obtain ⟨hP, hD⟩ := Bw.goN (ws' := [(oc7 oM iM_thrown rM_tape iM_taped iM_size x_6623 x_6624 x_6625 x_6626 x_6627 x_6628 x_6629 iM_trouble rM_letters x_6630 iM_hasCourt rM_r rM_fresh rM_told rM_read rM_st rM_undone rM_kept iM_undos iM_images rM_fresher iM_fresherSize iM_scale iM_night rM_heardRow rM_cutRow iM_breaths iM_cutMany iM_allBreaths rM_trial rM_words iM_fewestBreaths iM_orderMany iM_orderSum iM_leastOrder rM_often iM_setMany iM_someOf iM_allOf iM_allWeight iM_enoughWeight iM_worthSum iM_firstRest iM_leastDrawn), (arI rM_tape kM_tape 900 fM_tape), (arI rM_letters kM_letters 8 f_6631), (arI rM_fresh kM_fresh 287 fM_fresh), (arI rM_read kM_read 90 fM_read), (arI rM_fresher kM_fresher 8 fM_fresher)]) hB rfl ht hP hD _ hMs hk1 hFc rfl
      clear hz1 hk1 hvm ht hB hMs
      rw [← hru9] at e_x_6623_5
      obtain ⟨x_6632, rfl⟩ : ∃ z, z = r := ⟨_, rfl⟩
      have hG := hG.trans (un10_eq e_x_6623_5)
      have bx_6632 := hw.1
      have dx_6632 := bz_tb bx_6632
      have lx_6632 := hw.2
      clear e_x_6609_1
      clear e_x_6609_4
      refine lv_if_eq (tgt := 82) hx hb dX7_readLine_71 (by decide) (fun c_6633 => ?_) (fun c_6633 => ?_)
      · skip
        have hG := hG.trans (if_pos c_6633)
        have gc_6633 := ti_eq c_6633 rfl kc_0
        clear e_x_6623_3
        refine lv_aload_n hx hb dX7_readLine_82 rfl (lv_at hl 0 rfl) ?_
        obtain ⟨sa_6634, vsa_6634, nsa_6634, fsa_6634, hnsa_6634, hnesa_6634, hfesa_6634, hRsa_6634, hSsa_6634⟩ := hE.2.2.1 (140, "queen", [113, 117, 101, 101, 110]) (by decide)
        have hG := hG.trans (lt_eq hnesa_6634)
        have hG := hG.trans (lt_eq hfesa_6634)
        refine va_ldcS hx hb hown hRsa_6634 dX7_readLine_83 ?_
        refine lv_aload_n hx hb dX7_readLine_85 rfl (lv_at hl 0 rfl) ?_
        refine va_get (D := (dC, dI)) (ci := 7) (v := .ref rM_fresh) (C := RX7) (T := TX7) (N := 48) hx hb hts inX7 hown hK hP 0 rfl rfl 16 (by decide) (hts _ wd_156) (fun _ h9 => h9) rfl dX7_readLine_86 ?_
        refine lv_bipush (v := 7) hx hb dX7_readLine_89 (by decide) ?_
        refine va_iald hx hb hK hP 3 2 rfl rfl (by unfold vp_in; decide) dX7_readLine_91 ?_
        refine lv_topi (fun x_6635 ex_6635 => ?_)
        have hG := hG.trans (lt_eq ex_6635)
        have cx_6635 : (fM_fresh 7).toInt = x_6635.toInt := congrArg Int32.toInt (show fM_fresh 7 = x_6635 from ex_6635.symm)
        refine lv_bipush (v := 8) hx hb dX7_readLine_92 (by decide) ?_
        refine vz_jgeX hx hb dX7_readLine_94 dX7_readLine_97 dX7_readLine_98 dX7_readLine_101 (fun x_6636 ex_6636 b_x_6636 j_x_6636 => ?_)
        have hG := hG.trans (lt_eq ex_6636)
        have j_x_6636 : 1 ≤ x_6636.toInt → x_6635.toInt < 8 := fun h9 => by have h8 := j_x_6636 h9; rw [kc_8] at h8; exact h8
        have hMs := ml_of hD [true, true, true, true, true, false] (wc := [(oc7 oM iM_thrown rM_tape iM_taped iM_size x_6623 x_6624 x_6625 x_6626 x_6627 x_6628 x_6629 iM_trouble rM_letters x_6630 iM_hasCourt rM_r rM_fresh rM_told rM_read rM_st rM_undone rM_kept iM_undos iM_images rM_fresher iM_fresherSize iM_scale iM_night rM_heardRow rM_cutRow iM_breaths iM_cutMany iM_allBreaths rM_trial rM_words iM_fewestBreaths iM_orderMany iM_orderSum iM_leastOrder rM_often iM_setMany iM_someOf iM_allOf iM_allWeight iM_enoughWeight iM_worthSum iM_firstRest iM_leastDrawn), (arI rM_tape kM_tape 900 fM_tape), (arI rM_letters kM_letters 8 f_6631), (arI rM_fresh kM_fresh 287 fM_fresh), (arI rM_read kM_read 90 fM_read)]) rfl
        have hFc := va_freeM hD hS hA _ hMs
        refine va_calli (va_runV (As := [.ref sa_6634, .int x_6636]) (rest := []) ⟨hx, hb, hml, hown, hts⟩ (tX7_begins l dC dI _ oM iM_thrown rM_tape fM_tape kM_tape iM_taped iM_size x_6623 x_6624 x_6625 x_6626 x_6627 x_6628 x_6629 iM_trouble rM_letters f_6631 kM_letters x_6630 iM_hasCourt rM_r rM_fresh fM_fresh kM_fresh rM_told rM_read fM_read kM_read rM_st rM_undone rM_kept iM_undos iM_images rM_fresher iM_fresherSize iM_scale iM_night rM_heardRow rM_cutRow iM_breaths iM_cutMany iM_allBreaths rM_trial rM_words iM_fewestBreaths iM_orderMany iM_orderSum iM_leastOrder rM_often iM_setMany iM_someOf iM_allOf iM_allWeight iM_enoughWeight iM_worthSum iM_firstRest iM_leastDrawn sa_6634 x_6636 vsa_6634 nsa_6634 fsa_6634 b_iM_taped b_iM_size b_x_6624 b_x_6627 b_x_6630 b_iM_hasCourt b_iM_undos b_iM_images b_iM_scale b_iM_breaths b_iM_cutMany e_x_6623_1 r_P (Nat.le_trans (Nat.le_of_eq hnesa_6634) (by decide)) (by first | assumption | (have q0 := kc_0; have q1 := kc_1; first | exact ⟨by omega, by omega⟩ | omega) | decide | (intro h; exact absurd h (by decide)))) (cwV 2 hts (wd_V wd_450 wd_451 wd_452 wd_5 (wd_c wd_453)) rfl rfl rfl dv_yX7_begins_2 ⟨Nat.le_of_ble_eq_true rfl, Nat.le_of_ble_eq_true rfl⟩) ⟨Pq.fb, recvX7 hK hP (q0 := 0) rfl, fun U hU hW => Pq.to (hP.ms _ hMs) (hD.ms _ hMs) (hK.ms [true, true, true, true, false] rfl) hSsa_6634 hE hS hFc hU hW⟩ rfl rfl hl.1 rfl (lv_room (Nat.le_of_ble_eq_true rfl)) dX7_readLine_102 ⟨Nat.le_of_ble_eq_true rfl, Nat.le_of_ble_eq_true rfl⟩) hS (fun q _ h => hFc q h) hFc (fun r u t H locs ht hvm hw hB hz1 hk1 hS => ?_)
        have hru9 := hw.2
        have hw := hw.1
        refine ex_9_9 hB (fun x_6637 x_6638 x_6639 x_6640 x_6641 x_6642 x_6643 x_6644 f_6645 b_x_6638 b_x_6641 b_x_6644 e_x_6637_0 e_x_6637_1 e_x_6637_2 e_x_6637_3 e_x_6637_4 e_x_6637_5 hB => ?_)
        obtain ⟨hP, hD⟩ := Bw.goN (ws' := [(oc7 oM iM_thrown rM_tape iM_taped iM_size x_6637 x_6638 x_6639 x_6640 x_6641 x_6642 x_6643 iM_trouble rM_letters x_6644 iM_hasCourt rM_r rM_fresh rM_told rM_read rM_st rM_undone rM_kept iM_undos iM_images rM_fresher iM_fresherSize iM_scale iM_night rM_heardRow rM_cutRow iM_breaths iM_cutMany iM_allBreaths rM_trial rM_words iM_fewestBreaths iM_orderMany iM_orderSum iM_leastOrder rM_often iM_setMany iM_someOf iM_allOf iM_allWeight iM_enoughWeight iM_worthSum iM_firstRest iM_leastDrawn), (arI rM_tape kM_tape 900 fM_tape), (arI rM_letters kM_letters 8 f_6645), (arI rM_fresh kM_fresh 287 fM_fresh), (arI rM_read kM_read 90 fM_read), (arI rM_fresher kM_fresher 8 fM_fresher)]) hB rfl ht hP hD _ hMs hk1 hFc rfl
        clear hz1 hk1 hvm ht hB hMs
        rw [← hru9] at e_x_6637_5
        obtain ⟨x_6646, rfl⟩ : ∃ z, z = r := ⟨_, rfl⟩
        have hG := hG.trans (un10_eq e_x_6637_5)
        have bx_6646 := hw.1
        have dx_6646 := bz_tb bx_6646
        have lx_6646 := hw.2
        clear e_x_6623_1
        clear e_x_6623_4
        refine lv_if_eq (tgt := 116) hx hb dX7_readLine_105 (by decide) (fun c_6647 => ?_) (fun c_6647 => ?_)
        · skip
          have hG := hG.trans (if_pos c_6647)
          have gc_6647 := ti_eq c_6647 rfl kc_0
          clear e_x_6637_3
          refine lv_aload_n hx hb dX7_readLine_116 rfl (lv_at hl 0 rfl) ?_
          obtain ⟨sa_6648, vsa_6648, nsa_6648, fsa_6648, hnsa_6648, hnesa_6648, hfesa_6648, hRsa_6648, hSsa_6648⟩ := hE.2.2.1 (142, "chance", [99, 104, 97, 110, 99, 101]) (by decide)
          have hG := hG.trans (lt_eq hnesa_6648)
          have hG := hG.trans (lt_eq hfesa_6648)
          refine va_ldcS hx hb hown hRsa_6648 dX7_readLine_117 ?_
          refine lv_aload_n hx hb dX7_readLine_119 rfl (lv_at hl 0 rfl) ?_
          refine va_get (D := (dC, dI)) (ci := 7) (v := .ref rM_fresh) (C := RX7) (T := TX7) (N := 48) hx hb hts inX7 hown hK hP 0 rfl rfl 16 (by decide) (hts _ wd_156) (fun _ h9 => h9) rfl dX7_readLine_120 ?_
          refine lv_bipush (v := 7) hx hb dX7_readLine_123 (by decide) ?_
          refine va_iald hx hb hK hP 3 2 rfl rfl (by unfold vp_in; decide) dX7_readLine_125 ?_
          refine lv_topi (fun x_6649 ex_6649 => ?_)
          have hG := hG.trans (lt_eq ex_6649)
          have cx_6649 : (fM_fresh 7).toInt = x_6649.toInt := congrArg Int32.toInt (show fM_fresh 7 = x_6649 from ex_6649.symm)
          refine lv_bipush (v := 8) hx hb dX7_readLine_126 (by decide) ?_
          refine lv_icmp_ge (tgt := 146) hx hb dX7_readLine_128 (by decide) (fun c_6650 => ?_) (fun c_6650 => ?_)
          · skip
            have hG := hG.trans (if_pos c_6650)
            have gc_6650 := ti_le c_6650 kc_8 rfl
            refine lv_iconst (v := 0) hx hb dX7_readLine_146 (by decide) ?_
            have hMs := ml_of hD [true, true, true, true, true, false] (wc := [(oc7 oM iM_thrown rM_tape iM_taped iM_size x_6637 x_6638 x_6639 x_6640 x_6641 x_6642 x_6643 iM_trouble rM_letters x_6644 iM_hasCourt rM_r rM_fresh rM_told rM_read rM_st rM_undone rM_kept iM_undos iM_images rM_fresher iM_fresherSize iM_scale iM_night rM_heardRow rM_cutRow iM_breaths iM_cutMany iM_allBreaths rM_trial rM_words iM_fewestBreaths iM_orderMany iM_orderSum iM_leastOrder rM_often iM_setMany iM_someOf iM_allOf iM_allWeight iM_enoughWeight iM_worthSum iM_firstRest iM_leastDrawn), (arI rM_tape kM_tape 900 fM_tape), (arI rM_letters kM_letters 8 f_6645), (arI rM_fresh kM_fresh 287 fM_fresh), (arI rM_read kM_read 90 fM_read)]) rfl
            have hFc := va_freeM hD hS hA _ hMs
            refine va_calli (va_runV (As := [.ref sa_6648, .int 0]) (rest := []) ⟨hx, hb, hml, hown, hts⟩ (tX7_begins l dC dI _ oM iM_thrown rM_tape fM_tape kM_tape iM_taped iM_size x_6637 x_6638 x_6639 x_6640 x_6641 x_6642 x_6643 iM_trouble rM_letters f_6645 kM_letters x_6644 iM_hasCourt rM_r rM_fresh fM_fresh kM_fresh rM_told rM_read fM_read kM_read rM_st rM_undone rM_kept iM_undos iM_images rM_fresher iM_fresherSize iM_scale iM_night rM_heardRow rM_cutRow iM_breaths iM_cutMany iM_allBreaths rM_trial rM_words iM_fewestBreaths iM_orderMany iM_orderSum iM_leastOrder rM_often iM_setMany iM_someOf iM_allOf iM_allWeight iM_enoughWeight iM_worthSum iM_firstRest iM_leastDrawn sa_6648 0 vsa_6648 nsa_6648 fsa_6648 b_iM_taped b_iM_size b_x_6638 b_x_6641 b_x_6644 b_iM_hasCourt b_iM_undos b_iM_images b_iM_scale b_iM_breaths b_iM_cutMany e_x_6637_1 r_P (Nat.le_trans (Nat.le_of_eq hnesa_6648) (by decide)) ⟨(om_b1de7dbe kc_0), (om_270f4ea0 kc_0)⟩) (cwV 2 hts (wd_V wd_450 wd_451 wd_452 wd_5 (wd_c wd_453)) rfl rfl rfl dv_yX7_begins_2 ⟨Nat.le_of_ble_eq_true rfl, Nat.le_of_ble_eq_true rfl⟩) ⟨Pq.fb, recvX7 hK hP (q0 := 0) rfl, fun U hU hW => Pq.to (hP.ms _ hMs) (hD.ms _ hMs) (hK.ms [true, true, true, true, false] rfl) hSsa_6648 hE hS hFc hU hW⟩ rfl rfl hl.1 rfl (lv_room (Nat.le_of_ble_eq_true rfl)) dX7_readLine_147 ⟨Nat.le_of_ble_eq_true rfl, Nat.le_of_ble_eq_true rfl⟩) hS (fun q _ h => hFc q h) hFc (fun r u t H locs ht hvm hw hB hz1 hk1 hS => ?_)
            have hru9 := hw.2
            have hw := hw.1
            refine ex_9_9 hB (fun x_6651 x_6652 x_6653 x_6654 x_6655 x_6656 x_6657 x_6658 f_6659 b_x_6652 b_x_6655 b_x_6658 e_x_6651_0 e_x_6651_1 e_x_6651_2 e_x_6651_3 e_x_6651_4 e_x_6651_5 hB => ?_)
            obtain ⟨hP, hD⟩ := Bw.goN (ws' := [(oc7 oM iM_thrown rM_tape iM_taped iM_size x_6651 x_6652 x_6653 x_6654 x_6655 x_6656 x_6657 iM_trouble rM_letters x_6658 iM_hasCourt rM_r rM_fresh rM_told rM_read rM_st rM_undone rM_kept iM_undos iM_images rM_fresher iM_fresherSize iM_scale iM_night rM_heardRow rM_cutRow iM_breaths iM_cutMany iM_allBreaths rM_trial rM_words iM_fewestBreaths iM_orderMany iM_orderSum iM_leastOrder rM_often iM_setMany iM_someOf iM_allOf iM_allWeight iM_enoughWeight iM_worthSum iM_firstRest iM_leastDrawn), (arI rM_tape kM_tape 900 fM_tape), (arI rM_letters kM_letters 8 f_6659), (arI rM_fresh kM_fresh 287 fM_fresh), (arI rM_read kM_read 90 fM_read), (arI rM_fresher kM_fresher 8 fM_fresher)]) hB rfl ht hP hD _ hMs hk1 hFc rfl
            clear hz1 hk1 hvm ht hB hMs
            rw [← hru9] at e_x_6651_5
            obtain ⟨x_6660, rfl⟩ : ∃ z, z = r := ⟨_, rfl⟩
            have hG := hG.trans (un10_eq e_x_6651_5)
            have bx_6660 := hw.1
            have dx_6660 := bz_tb bx_6660
            have lx_6660 := hw.2
            clear e_x_6637_1
            clear e_x_6637_4
            refine lv_if_eq (tgt := 161) hx hb dX7_readLine_150 (by decide) (fun c_6661 => ?_) (fun c_6661 => ?_)
            · skip
              have hG := hG.trans (if_pos c_6661)
              have gc_6661 := ti_eq c_6661 rfl kc_0
              clear e_x_6651_3
              refine lv_aload_n hx hb dX7_readLine_161 rfl (lv_at hl 0 rfl) ?_
              obtain ⟨sa_6662, vsa_6662, nsa_6662, fsa_6662, hnsa_6662, hnesa_6662, hfesa_6662, hRsa_6662, hSsa_6662⟩ := hE.2.2.1 (144, "throne", [116, 104, 114, 111, 110, 101]) (by decide)
              have hG := hG.trans (lt_eq hnesa_6662)
              have hG := hG.trans (lt_eq hfesa_6662)
              refine va_ldcS hx hb hown hRsa_6662 dX7_readLine_162 ?_
              have hMs := ml_of hD [true, false, true, false, false, false] (wc := [(oc7 oM iM_thrown rM_tape iM_taped iM_size x_6651 x_6652 x_6653 x_6654 x_6655 x_6656 x_6657 iM_trouble rM_letters x_6658 iM_hasCourt rM_r rM_fresh rM_told rM_read rM_st rM_undone rM_kept iM_undos iM_images rM_fresher iM_fresherSize iM_scale iM_night rM_heardRow rM_cutRow iM_breaths iM_cutMany iM_allBreaths rM_trial rM_words iM_fewestBreaths iM_orderMany iM_orderSum iM_leastOrder rM_often iM_setMany iM_someOf iM_allOf iM_allWeight iM_enoughWeight iM_worthSum iM_firstRest iM_leastDrawn), (arI rM_letters kM_letters 8 f_6659)]) rfl
              have hFc := va_freeM hD hS hA _ hMs
              refine va_calli (va_runV (As := [.ref sa_6662]) (rest := []) ⟨hx, hb, hml, hown, hts⟩ (tX7_isWord l dC dI _ oM iM_thrown rM_tape iM_taped iM_size x_6651 x_6652 x_6653 x_6654 x_6655 x_6656 x_6657 iM_trouble rM_letters f_6659 kM_letters x_6658 iM_hasCourt rM_r rM_fresh rM_told rM_read rM_st rM_undone rM_kept iM_undos iM_images rM_fresher iM_fresherSize iM_scale iM_night rM_heardRow rM_cutRow iM_breaths iM_cutMany iM_allBreaths rM_trial rM_words iM_fewestBreaths iM_orderMany iM_orderSum iM_leastOrder rM_often iM_setMany iM_someOf iM_allOf iM_allWeight iM_enoughWeight iM_worthSum iM_firstRest iM_leastDrawn sa_6662 vsa_6662 nsa_6662 fsa_6662 b_iM_taped b_iM_size b_x_6652 b_x_6655 b_x_6658 b_iM_hasCourt b_iM_undos b_iM_images b_iM_scale b_iM_breaths b_iM_cutMany e_x_6651_1 (Nat.le_trans (Nat.le_of_eq hnesa_6662) (by decide))) (cwV 1 hts (wd_V wd_420 wd_421 wd_422 wd_5 (wd_c wd_423)) rfl rfl rfl dv_yX7_isWord_1 ⟨Nat.le_of_ble_eq_true rfl, Nat.le_of_ble_eq_true rfl⟩) ⟨Pq.fb, recvX7 hK hP (q0 := 0) rfl, fun U hU hW => Pq.to (hP.ms _ hMs) (hD.ms _ hMs) (hK.ms [false, true, false, false, false] rfl) hSsa_6662 hE hS hFc hU hW⟩ rfl rfl hl.1 rfl (lv_room (Nat.le_of_ble_eq_true rfl)) dX7_readLine_164 ⟨Nat.le_of_ble_eq_true rfl, Nat.le_of_ble_eq_true rfl⟩) hS (fun q _ h => hFc q h) hFc (fun r u t H locs ht hvm hw hB hz1 hk1 hS => ?_)
              have hru9 := hw.2
              have hw := hw.1
              obtain ⟨hP, hD⟩ := Bw.goN (ws' := [(oc7 oM iM_thrown rM_tape iM_taped iM_size x_6651 x_6652 x_6653 x_6654 x_6655 x_6656 x_6657 iM_trouble rM_letters x_6658 iM_hasCourt rM_r rM_fresh rM_told rM_read rM_st rM_undone rM_kept iM_undos iM_images rM_fresher iM_fresherSize iM_scale iM_night rM_heardRow rM_cutRow iM_breaths iM_cutMany iM_allBreaths rM_trial rM_words iM_fewestBreaths iM_orderMany iM_orderSum iM_leastOrder rM_often iM_setMany iM_someOf iM_allOf iM_allWeight iM_enoughWeight iM_worthSum iM_firstRest iM_leastDrawn), (arI rM_tape kM_tape 900 fM_tape), (arI rM_letters kM_letters 8 f_6659), (arI rM_fresh kM_fresh 287 fM_fresh), (arI rM_read kM_read 90 fM_read), (arI rM_fresher kM_fresher 8 fM_fresher)]) hB rfl ht hP hD _ hMs hk1 hFc rfl
              clear hz1 hk1 hvm ht hB hMs
              obtain ⟨x_6663, rfl⟩ : ∃ z, z = r := ⟨_, rfl⟩
              have hG := hG.trans (lt_eq hru9.symm)
              have bx_6663 := hw.1
              have dx_6663 := bz_tb bx_6663
              have lx_6663 := hw.2
              refine lv_if_eq (tgt := 177) hx hb dX7_readLine_167 (by decide) (fun c_6664 => ?_) (fun c_6664 => ?_)
              · skip
                have hG := hG.trans (if_pos c_6664)
                have gc_6664 := ti_eq c_6664 rfl kc_0
                clear lx_6663
                refine lv_aload_n hx hb dX7_readLine_177 rfl (lv_at hl 0 rfl) ?_
                obtain ⟨sa_6665, vsa_6665, nsa_6665, fsa_6665, hnsa_6665, hnesa_6665, hfesa_6665, hRsa_6665, hSsa_6665⟩ := hE.2.2.1 (146, "unsure", [117, 110, 115, 117, 114, 101]) (by decide)
                have hG := hG.trans (lt_eq hnesa_6665)
                have hG := hG.trans (lt_eq hfesa_6665)
                refine va_ldcS hx hb hown hRsa_6665 dX7_readLine_178 ?_
                refine lv_aload_n hx hb dX7_readLine_180 rfl (lv_at hl 0 rfl) ?_
                refine va_get (D := (dC, dI)) (ci := 7) (v := .ref rM_fresh) (C := RX7) (T := TX7) (N := 48) hx hb hts inX7 hown hK hP 0 rfl rfl 16 (by decide) (hts _ wd_156) (fun _ h9 => h9) rfl dX7_readLine_181 ?_
                refine lv_iconst (v := 3) hx hb dX7_readLine_184 (by decide) ?_
                refine va_iald hx hb hK hP 3 2 rfl rfl (by unfold vp_in; decide) dX7_readLine_185 ?_
                refine lv_topi (fun x_6666 ex_6666 => ?_)
                have hG := hG.trans (lt_eq ex_6666)
                have cx_6666 : (fM_fresh 3).toInt = x_6666.toInt := congrArg Int32.toInt (show fM_fresh 3 = x_6666 from ex_6666.symm)
                refine lv_iconst (v := 4) hx hb dX7_readLine_186 (by decide) ?_
                refine vz_jgeX hx hb dX7_readLine_187 dX7_readLine_190 dX7_readLine_191 dX7_readLine_194 (fun x_6667 ex_6667 b_x_6667 j_x_6667 => ?_)
                have hG := hG.trans (lt_eq ex_6667)
                have j_x_6667 : 1 ≤ x_6667.toInt → x_6666.toInt < 4 := fun h9 => by have h8 := j_x_6667 h9; rw [kc_4] at h8; exact h8
                have hMs := ml_of hD [true, true, true, true, true, false] (wc := [(oc7 oM iM_thrown rM_tape iM_taped iM_size x_6651 x_6652 x_6653 x_6654 x_6655 x_6656 x_6657 iM_trouble rM_letters x_6658 iM_hasCourt rM_r rM_fresh rM_told rM_read rM_st rM_undone rM_kept iM_undos iM_images rM_fresher iM_fresherSize iM_scale iM_night rM_heardRow rM_cutRow iM_breaths iM_cutMany iM_allBreaths rM_trial rM_words iM_fewestBreaths iM_orderMany iM_orderSum iM_leastOrder rM_often iM_setMany iM_someOf iM_allOf iM_allWeight iM_enoughWeight iM_worthSum iM_firstRest iM_leastDrawn), (arI rM_tape kM_tape 900 fM_tape), (arI rM_letters kM_letters 8 f_6659), (arI rM_fresh kM_fresh 287 fM_fresh), (arI rM_read kM_read 90 fM_read)]) rfl
                have hFc := va_freeM hD hS hA _ hMs
                refine va_calli (va_runV (As := [.ref sa_6665, .int x_6667]) (rest := []) ⟨hx, hb, hml, hown, hts⟩ (tX7_begins l dC dI _ oM iM_thrown rM_tape fM_tape kM_tape iM_taped iM_size x_6651 x_6652 x_6653 x_6654 x_6655 x_6656 x_6657 iM_trouble rM_letters f_6659 kM_letters x_6658 iM_hasCourt rM_r rM_fresh fM_fresh kM_fresh rM_told rM_read fM_read kM_read rM_st rM_undone rM_kept iM_undos iM_images rM_fresher iM_fresherSize iM_scale iM_night rM_heardRow rM_cutRow iM_breaths iM_cutMany iM_allBreaths rM_trial rM_words iM_fewestBreaths iM_orderMany iM_orderSum iM_leastOrder rM_often iM_setMany iM_someOf iM_allOf iM_allWeight iM_enoughWeight iM_worthSum iM_firstRest iM_leastDrawn sa_6665 x_6667 vsa_6665 nsa_6665 fsa_6665 b_iM_taped b_iM_size b_x_6652 b_x_6655 b_x_6658 b_iM_hasCourt b_iM_undos b_iM_images b_iM_scale b_iM_breaths b_iM_cutMany e_x_6651_1 r_P (Nat.le_trans (Nat.le_of_eq hnesa_6665) (by decide)) (by first | assumption | (have q0 := kc_0; have q1 := kc_1; first | exact ⟨by omega, by omega⟩ | omega) | decide | (intro h; exact absurd h (by decide)))) (cwV 2 hts (wd_V wd_450 wd_451 wd_452 wd_5 (wd_c wd_453)) rfl rfl rfl dv_yX7_begins_2 ⟨Nat.le_of_ble_eq_true rfl, Nat.le_of_ble_eq_true rfl⟩) ⟨Pq.fb, recvX7 hK hP (q0 := 0) rfl, fun U hU hW => Pq.to (hP.ms _ hMs) (hD.ms _ hMs) (hK.ms [true, true, true, true, false] rfl) hSsa_6665 hE hS hFc hU hW⟩ rfl rfl hl.1 rfl (lv_room (Nat.le_of_ble_eq_true rfl)) dX7_readLine_195 ⟨Nat.le_of_ble_eq_true rfl, Nat.le_of_ble_eq_true rfl⟩) hS (fun q _ h => hFc q h) hFc (fun r u t H locs ht hvm hw hB hz1 hk1 hS => ?_)
                have hru9 := hw.2
                have hw := hw.1
                refine ex_9_9 hB (fun x_6668 x_6669 x_6670 x_6671 x_6672 x_6673 x_6674 x_6675 f_6676 b_x_6669 b_x_6672 b_x_6675 e_x_6668_0 e_x_6668_1 e_x_6668_2 e_x_6668_3 e_x_6668_4 e_x_6668_5 hB => ?_)
                obtain ⟨hP, hD⟩ := Bw.goN (ws' := [(oc7 oM iM_thrown rM_tape iM_taped iM_size x_6668 x_6669 x_6670 x_6671 x_6672 x_6673 x_6674 iM_trouble rM_letters x_6675 iM_hasCourt rM_r rM_fresh rM_told rM_read rM_st rM_undone rM_kept iM_undos iM_images rM_fresher iM_fresherSize iM_scale iM_night rM_heardRow rM_cutRow iM_breaths iM_cutMany iM_allBreaths rM_trial rM_words iM_fewestBreaths iM_orderMany iM_orderSum iM_leastOrder rM_often iM_setMany iM_someOf iM_allOf iM_allWeight iM_enoughWeight iM_worthSum iM_firstRest iM_leastDrawn), (arI rM_tape kM_tape 900 fM_tape), (arI rM_letters kM_letters 8 f_6676), (arI rM_fresh kM_fresh 287 fM_fresh), (arI rM_read kM_read 90 fM_read), (arI rM_fresher kM_fresher 8 fM_fresher)]) hB rfl ht hP hD _ hMs hk1 hFc rfl
                clear hz1 hk1 hvm ht hB hMs
                rw [← hru9] at e_x_6668_5
                obtain ⟨x_6677, rfl⟩ : ∃ z, z = r := ⟨_, rfl⟩
                have hG := hG.trans (un10_eq e_x_6668_5)
                have bx_6677 := hw.1
                have dx_6677 := bz_tb bx_6677
                have lx_6677 := hw.2
                clear e_x_6651_1
                clear e_x_6651_4
                refine lv_if_eq (tgt := 208) hx hb dX7_readLine_198 (by decide) (fun c_6678 => ?_) (fun c_6678 => ?_)
                · skip
                  have hG := hG.trans (if_pos c_6678)
                  have gc_6678 := ti_eq c_6678 rfl kc_0
                  clear e_x_6668_3
                  refine lv_aload_n hx hb dX7_readLine_208 rfl (lv_at hl 0 rfl) ?_
                  obtain ⟨sa_6679, vsa_6679, nsa_6679, fsa_6679, hnsa_6679, hnesa_6679, hfesa_6679, hRsa_6679, hSsa_6679⟩ := hE.2.2.1 (148, "said", [115, 97, 105, 100]) (by decide)
                  have hG := hG.trans (lt_eq hnesa_6679)
                  have hG := hG.trans (lt_eq hfesa_6679)
                  refine va_ldcS hx hb hown hRsa_6679 dX7_readLine_209 ?_
                  have hMs := ml_of hD [true, false, true, false, false, false] (wc := [(oc7 oM iM_thrown rM_tape iM_taped iM_size x_6668 x_6669 x_6670 x_6671 x_6672 x_6673 x_6674 iM_trouble rM_letters x_6675 iM_hasCourt rM_r rM_fresh rM_told rM_read rM_st rM_undone rM_kept iM_undos iM_images rM_fresher iM_fresherSize iM_scale iM_night rM_heardRow rM_cutRow iM_breaths iM_cutMany iM_allBreaths rM_trial rM_words iM_fewestBreaths iM_orderMany iM_orderSum iM_leastOrder rM_often iM_setMany iM_someOf iM_allOf iM_allWeight iM_enoughWeight iM_worthSum iM_firstRest iM_leastDrawn), (arI rM_letters kM_letters 8 f_6676)]) rfl
                  have hFc := va_freeM hD hS hA _ hMs
                  refine va_calli (va_runV (As := [.ref sa_6679]) (rest := []) ⟨hx, hb, hml, hown, hts⟩ (tX7_isWord l dC dI _ oM iM_thrown rM_tape iM_taped iM_size x_6668 x_6669 x_6670 x_6671 x_6672 x_6673 x_6674 iM_trouble rM_letters f_6676 kM_letters x_6675 iM_hasCourt rM_r rM_fresh rM_told rM_read rM_st rM_undone rM_kept iM_undos iM_images rM_fresher iM_fresherSize iM_scale iM_night rM_heardRow rM_cutRow iM_breaths iM_cutMany iM_allBreaths rM_trial rM_words iM_fewestBreaths iM_orderMany iM_orderSum iM_leastOrder rM_often iM_setMany iM_someOf iM_allOf iM_allWeight iM_enoughWeight iM_worthSum iM_firstRest iM_leastDrawn sa_6679 vsa_6679 nsa_6679 fsa_6679 b_iM_taped b_iM_size b_x_6669 b_x_6672 b_x_6675 b_iM_hasCourt b_iM_undos b_iM_images b_iM_scale b_iM_breaths b_iM_cutMany e_x_6668_1 (Nat.le_trans (Nat.le_of_eq hnesa_6679) (by decide))) (cwV 1 hts (wd_V wd_420 wd_421 wd_422 wd_5 (wd_c wd_423)) rfl rfl rfl dv_yX7_isWord_1 ⟨Nat.le_of_ble_eq_true rfl, Nat.le_of_ble_eq_true rfl⟩) ⟨Pq.fb, recvX7 hK hP (q0 := 0) rfl, fun U hU hW => Pq.to (hP.ms _ hMs) (hD.ms _ hMs) (hK.ms [false, true, false, false, false] rfl) hSsa_6679 hE hS hFc hU hW⟩ rfl rfl hl.1 rfl (lv_room (Nat.le_of_ble_eq_true rfl)) dX7_readLine_211 ⟨Nat.le_of_ble_eq_true rfl, Nat.le_of_ble_eq_true rfl⟩) hS (fun q _ h => hFc q h) hFc (fun r u t H locs ht hvm hw hB hz1 hk1 hS => ?_)
                  have hru9 := hw.2
                  have hw := hw.1
                  obtain ⟨hP, hD⟩ := Bw.goN (ws' := [(oc7 oM iM_thrown rM_tape iM_taped iM_size x_6668 x_6669 x_6670 x_6671 x_6672 x_6673 x_6674 iM_trouble rM_letters x_6675 iM_hasCourt rM_r rM_fresh rM_told rM_read rM_st rM_undone rM_kept iM_undos iM_images rM_fresher iM_fresherSize iM_scale iM_night rM_heardRow rM_cutRow iM_breaths iM_cutMany iM_allBreaths rM_trial rM_words iM_fewestBreaths iM_orderMany iM_orderSum iM_leastOrder rM_often iM_setMany iM_someOf iM_allOf iM_allWeight iM_enoughWeight iM_worthSum iM_firstRest iM_leastDrawn), (arI rM_tape kM_tape 900 fM_tape), (arI rM_letters kM_letters 8 f_6676), (arI rM_fresh kM_fresh 287 fM_fresh), (arI rM_read kM_read 90 fM_read), (arI rM_fresher kM_fresher 8 fM_fresher)]) hB rfl ht hP hD _ hMs hk1 hFc rfl
                  clear hz1 hk1 hvm ht hB hMs
                  obtain ⟨x_6680, rfl⟩ : ∃ z, z = r := ⟨_, rfl⟩
                  have hG := hG.trans (lt_eq hru9.symm)
                  have bx_6680 := hw.1
                  have dx_6680 := bz_tb bx_6680
                  have lx_6680 := hw.2
                  refine lv_if_eq (tgt := 224) hx hb dX7_readLine_214 (by decide) (fun c_6681 => ?_) (fun c_6681 => ?_)
                  · skip
                    have hG := hG.trans (if_pos c_6681)
                    have gc_6681 := ti_eq c_6681 rfl kc_0
                    clear lx_6680
                    refine lv_aload_n hx hb dX7_readLine_224 rfl (lv_at hl 0 rfl) ?_
                    refine lv_iconst (v := 1) hx hb dX7_readLine_225 (by decide) ?_
                    refine lv_aload_n hx hb dX7_readLine_226 rfl (lv_at hl 0 rfl) ?_
                    refine va_get (D := (dC, dI)) (ci := 7) (v := .int x_6668) (C := RX7) (T := TX7) (N := 48) hx hb hts inX7 hown hK hP 0 rfl rfl 4 (by decide) (hts _ wd_384) (fun _ h9 => h9) rfl dX7_readLine_227 ?_
                    have hMs := ml_of hD [true, false, false, false, false, false] (wc := [(oc7 oM iM_thrown rM_tape iM_taped iM_size x_6668 x_6669 x_6670 x_6671 x_6672 x_6673 x_6674 iM_trouble rM_letters x_6675 iM_hasCourt rM_r rM_fresh rM_told rM_read rM_st rM_undone rM_kept iM_undos iM_images rM_fresher iM_fresherSize iM_scale iM_night rM_heardRow rM_cutRow iM_breaths iM_cutMany iM_allBreaths rM_trial rM_words iM_fewestBreaths iM_orderMany iM_orderSum iM_leastOrder rM_often iM_setMany iM_someOf iM_allOf iM_allWeight iM_enoughWeight iM_worthSum iM_firstRest iM_leastDrawn)]) rfl
                    have hFc := va_freeM hD hS hA _ hMs
                    refine va_callv (va_runV (As := [.int 1, .int x_6668]) (rest := []) ⟨hx, hb, hml, hown, hts⟩ (tX7_wrong l dC dI _ oM iM_thrown rM_tape iM_taped iM_size x_6668 x_6669 x_6670 x_6671 x_6672 x_6673 x_6674 iM_trouble rM_letters x_6675 iM_hasCourt rM_r rM_fresh rM_told rM_read rM_st rM_undone rM_kept iM_undos iM_images rM_fresher iM_fresherSize iM_scale iM_night rM_heardRow rM_cutRow iM_breaths iM_cutMany iM_allBreaths rM_trial rM_words iM_fewestBreaths iM_orderMany iM_orderSum iM_leastOrder rM_often iM_setMany iM_someOf iM_allOf iM_allWeight iM_enoughWeight iM_worthSum iM_firstRest iM_leastDrawn 1 x_6668 b_iM_taped b_iM_size b_x_6669 b_x_6672 b_x_6675 b_iM_hasCourt b_iM_undos b_iM_images b_iM_scale b_iM_breaths b_iM_cutMany e_x_6668_1) (cwV 2 hts (wd_V wd_430 wd_431 wd_432 wd_5 (wd_c wd_433)) rfl rfl rfl dv_yX7_wrong_2 ⟨Nat.le_of_ble_eq_true rfl, Nat.le_of_ble_eq_true rfl⟩) ⟨Pw.fb, recvX7 hK hP (q0 := 0) rfl, fun U hU hW => Pw.to (hP.ms _ hMs) (hD.ms _ hMs) (hK.ms [false, false, false, false, false] rfl) hE hS hFc hU hW⟩ rfl rfl hl.1 rfl (lv_room (Nat.le_of_ble_eq_true rfl)) dX7_readLine_230 ⟨Nat.le_of_ble_eq_true rfl, Nat.le_of_ble_eq_true rfl⟩) hS (fun q _ h => hFc q h) hFc (fun u t H locs ht hvm hw hB hz1 hk1 hS => ?_)
                    refine ex_3_3 hB (fun x_6682 x_6683 x_6684 b_x_6684 e_x_6682_0 e_x_6682_1 hB => ?_)
                    obtain ⟨hP, hD⟩ := Bw.goN (ws' := [(oc7 oM iM_thrown rM_tape iM_taped iM_size x_6668 x_6669 x_6670 x_6671 x_6672 x_6682 x_6683 iM_trouble rM_letters x_6684 iM_hasCourt rM_r rM_fresh rM_told rM_read rM_st rM_undone rM_kept iM_undos iM_images rM_fresher iM_fresherSize iM_scale iM_night rM_heardRow rM_cutRow iM_breaths iM_cutMany iM_allBreaths rM_trial rM_words iM_fewestBreaths iM_orderMany iM_orderSum iM_leastOrder rM_often iM_setMany iM_someOf iM_allOf iM_allWeight iM_enoughWeight iM_worthSum iM_firstRest iM_leastDrawn), (arI rM_tape kM_tape 900 fM_tape), (arI rM_letters kM_letters 8 f_6676), (arI rM_fresh kM_fresh 287 fM_fresh), (arI rM_read kM_read 90 fM_read), (arI rM_fresher kM_fresher 8 fM_fresher)]) hB rfl ht hP hD _ hMs hk1 hFc rfl
                    clear hz1 hk1 hvm ht hB hMs
                    have hG := hG.trans (un3_eq e_x_6682_1)
                    exact wq_v hx hb hr 0 trivial (fun t ht hW => ⟨x_6668, x_6669, x_6670, x_6671, x_6672, x_6682, x_6683, x_6684, iM_fresherSize, f_6676, fM_fresh, fM_read, fM_fresher, b_x_6669, b_x_6672, b_x_6684, (om_dcd74bf2 e_x_6609_0 e_x_6623_0 e_x_6637_0 e_x_6651_0 e_x_6668_0), e_x_6668_1, (om_00f1c5dd b_iM_failed.2 e_x_6682_0), (fun h9 => False.elim (om_92495247 e_x_6682_0 h9.1)), r_P, hG, Bw.to hP hD hK ht hW⟩) hS dX7_readLine_233 hlocks
                  · skip
                    have hG := hG.trans (if_neg c_6681)
                    have gc_6681 := ti_ne c_6681 rfl kc_0
                    replace gc_6681 : (-1) * x_6680.toInt + 1 ≤ 0 := om_e3003f79 gc_6681 dx_6680.1
                    have h_6685 : x_6670.toInt = 2 := lx_6680 (om_7907a7c1 dx_6680.2 gc_6681)
                    clear lx_6680
                    have h_6686 : x_6672.toInt ≤ 8 := e_x_6668_1 h_6685
                    clear e_x_6668_1
                    refine lv_aload_n hx hb dX7_readLine_217 rfl (lv_at hl 0 rfl) ?_
                    have hMs := ml_of hD [true, true, true, true, true, false] (wc := [(oc7 oM iM_thrown rM_tape iM_taped iM_size x_6668 x_6669 x_6670 x_6671 x_6672 x_6673 x_6674 iM_trouble rM_letters x_6675 iM_hasCourt rM_r rM_fresh rM_told rM_read rM_st rM_undone rM_kept iM_undos iM_images rM_fresher iM_fresherSize iM_scale iM_night rM_heardRow rM_cutRow iM_breaths iM_cutMany iM_allBreaths rM_trial rM_words iM_fewestBreaths iM_orderMany iM_orderSum iM_leastOrder rM_often iM_setMany iM_someOf iM_allOf iM_allWeight iM_enoughWeight iM_worthSum iM_firstRest iM_leastDrawn), (arI rM_tape kM_tape 900 fM_tape), (arI rM_letters kM_letters 8 f_6676), (arI rM_fresh kM_fresh 287 fM_fresh), (arI rM_read kM_read 90 fM_read)]) rfl
                    have hFc := va_freeM hD hS hA _ hMs
                    refine va_callv (va_runV (As := []) (rest := []) ⟨hx, hb, hml, hown, hts⟩ (tX7_saidLine l dC dI _ oM iM_thrown rM_tape fM_tape kM_tape iM_taped iM_size x_6668 x_6669 x_6670 x_6671 x_6672 x_6673 x_6674 iM_trouble rM_letters f_6676 kM_letters x_6675 iM_hasCourt rM_r rM_fresh fM_fresh kM_fresh rM_told rM_read fM_read kM_read rM_st rM_undone rM_kept iM_undos iM_images rM_fresher iM_fresherSize iM_scale iM_night rM_heardRow rM_cutRow iM_breaths iM_cutMany iM_allBreaths rM_trial rM_words iM_fewestBreaths iM_orderMany iM_orderSum iM_leastOrder rM_often iM_setMany iM_someOf iM_allOf iM_allWeight iM_enoughWeight iM_worthSum iM_firstRest iM_leastDrawn b_iM_taped b_iM_size b_x_6669 b_x_6672 b_x_6675 b_iM_hasCourt b_iM_undos b_iM_images b_iM_scale b_iM_breaths b_iM_cutMany (fun h9 => h_6686) r_P) (cwV 0 hts (wd_V wd_498 wd_499 wd_500 wd_5 (wd_c wd_501)) rfl rfl rfl dv_yX7_saidLine_0 ⟨Nat.le_of_ble_eq_true rfl, Nat.le_of_ble_eq_true rfl⟩) ⟨Pw.fb, recvX7 hK hP (q0 := 0) rfl, fun U hU hW => Pw.to (hP.ms _ hMs) (hD.ms _ hMs) (hK.ms [true, true, true, true, false] rfl) hE hS hFc hU hW⟩ rfl rfl hl.1 rfl (lv_room (Nat.le_of_ble_eq_true rfl)) dX7_readLine_218 ⟨Nat.le_of_ble_eq_true rfl, Nat.le_of_ble_eq_true rfl⟩) hS (fun q _ h => hFc q h) hFc (fun u t H locs ht hvm hw hB hz1 hk1 hS => ?_)
                    refine ex_10_9 hB (fun x_6687 x_6688 x_6689 x_6690 x_6691 x_6692 x_6693 x_6694 f_6695 f_6696 b_x_6688 b_x_6691 b_x_6694 e_x_6687_0 e_x_6687_1 e_x_6687_2 e_x_6687_3 e_x_6687_4 e_x_6687_5 hB => ?_)
                    obtain ⟨hP, hD⟩ := Bw.goN (ws' := [(oc7 oM iM_thrown rM_tape iM_taped iM_size x_6687 x_6688 x_6689 x_6690 x_6691 x_6692 x_6693 iM_trouble rM_letters x_6694 iM_hasCourt rM_r rM_fresh rM_told rM_read rM_st rM_undone rM_kept iM_undos iM_images rM_fresher iM_fresherSize iM_scale iM_night rM_heardRow rM_cutRow iM_breaths iM_cutMany iM_allBreaths rM_trial rM_words iM_fewestBreaths iM_orderMany iM_orderSum iM_leastOrder rM_often iM_setMany iM_someOf iM_allOf iM_allWeight iM_enoughWeight iM_worthSum iM_firstRest iM_leastDrawn), (arI rM_tape kM_tape 900 fM_tape), (arI rM_letters kM_letters 8 f_6695), (arI rM_fresh kM_fresh 287 f_6696), (arI rM_read kM_read 90 fM_read), (arI rM_fresher kM_fresher 8 fM_fresher)]) hB rfl ht hP hD _ hMs hk1 hFc rfl
                    clear hz1 hk1 hvm ht hB hMs
                    have pl_f_6696 := e_x_6687_4.lins
                    have hG := hG.trans (un10_eq e_x_6687_5)
                    clear e_x_6668_4
                    refine lv_goto (tgt := 233) hx hb dX7_readLine_221 (by decide) ?_
                    exact wq_v hx hb hr 0 trivial (fun t ht hW => ⟨x_6687, x_6688, x_6689, x_6690, x_6691, x_6692, x_6693, x_6694, iM_fresherSize, f_6695, f_6696, fM_read, fM_fresher, b_x_6688, b_x_6691, b_x_6694, (om_ac7239fc e_x_6609_0 e_x_6623_0 e_x_6637_0 e_x_6651_0 e_x_6668_0 e_x_6687_0), e_x_6687_1, (om_ac7239fc e_x_6609_2 e_x_6623_2 e_x_6637_2 e_x_6651_2 e_x_6668_2 e_x_6687_2), (fun h9 => (om_ab9846f4 e_x_6609_0 e_x_6623_0 e_x_6637_0 e_x_6651_0 e_x_6668_0 (e_x_6687_3 ⟨h9.1, h9.2⟩))), e_x_6687_4, hG, Bw.to hP hD hK ht hW⟩) hS dX7_readLine_233 hlocks
                · skip
                  have hG := hG.trans (if_neg c_6678)
                  have gc_6678 := ti_ne c_6678 rfl kc_0
                  replace gc_6678 : (-1) * x_6677.toInt + 1 ≤ 0 := om_e3003f79 gc_6678 dx_6677.1
                  have h_6697 := e_x_6668_3 (by omega)
                  clear e_x_6668_3
                  refine lv_aload_n hx hb dX7_readLine_201 rfl (lv_at hl 0 rfl) ?_
                  have hMs := ml_of hD [true, true, true, true, true, false] (wc := [(oc7 oM iM_thrown rM_tape iM_taped iM_size x_6668 x_6669 x_6670 x_6671 x_6672 x_6673 x_6674 iM_trouble rM_letters x_6675 iM_hasCourt rM_r rM_fresh rM_told rM_read rM_st rM_undone rM_kept iM_undos iM_images rM_fresher iM_fresherSize iM_scale iM_night rM_heardRow rM_cutRow iM_breaths iM_cutMany iM_allBreaths rM_trial rM_words iM_fewestBreaths iM_orderMany iM_orderSum iM_leastOrder rM_often iM_setMany iM_someOf iM_allOf iM_allWeight iM_enoughWeight iM_worthSum iM_firstRest iM_leastDrawn), (arI rM_tape kM_tape 900 fM_tape), (arI rM_letters kM_letters 8 f_6676), (arI rM_fresh kM_fresh 287 fM_fresh), (arI rM_read kM_read 90 fM_read)]) rfl
                  have hFc := va_freeM hD hS hA _ hMs
                  refine va_callv (va_runV (As := []) (rest := []) ⟨hx, hb, hml, hown, hts⟩ (tX7_unsureLine l dC dI _ oM iM_thrown rM_tape fM_tape kM_tape iM_taped iM_size x_6668 x_6669 x_6670 x_6671 x_6672 x_6673 x_6674 iM_trouble rM_letters f_6676 kM_letters x_6675 iM_hasCourt rM_r rM_fresh fM_fresh kM_fresh rM_told rM_read fM_read kM_read rM_st rM_undone rM_kept iM_undos iM_images rM_fresher iM_fresherSize iM_scale iM_night rM_heardRow rM_cutRow iM_breaths iM_cutMany iM_allBreaths rM_trial rM_words iM_fewestBreaths iM_orderMany iM_orderSum iM_leastOrder rM_often iM_setMany iM_someOf iM_allOf iM_allWeight iM_enoughWeight iM_worthSum iM_firstRest iM_leastDrawn b_iM_taped b_iM_size b_x_6669 b_x_6672 b_x_6675 b_iM_hasCourt b_iM_undos b_iM_images b_iM_scale b_iM_breaths b_iM_cutMany e_x_6668_1 r_P (by intro h9; have q0 := kc_0; have q1 := kc_1; have q2 := kc_2; have q3 := kc_3; omega)) (cwV 0 hts (wd_V wd_494 wd_495 wd_496 wd_5 (wd_c wd_497)) rfl rfl rfl dv_yX7_unsureLine_0 ⟨Nat.le_of_ble_eq_true rfl, Nat.le_of_ble_eq_true rfl⟩) ⟨Pw.fb, recvX7 hK hP (q0 := 0) rfl, fun U hU hW => Pw.to (hP.ms _ hMs) (hD.ms _ hMs) (hK.ms [true, true, true, true, false] rfl) hE hS hFc hU hW⟩ rfl rfl hl.1 rfl (lv_room (Nat.le_of_ble_eq_true rfl)) dX7_readLine_202 ⟨Nat.le_of_ble_eq_true rfl, Nat.le_of_ble_eq_true rfl⟩) hS (fun q _ h => hFc q h) hFc (fun u t H locs ht hvm hw hB hz1 hk1 hS => ?_)
                  refine ex_10_9 hB (fun x_6698 x_6699 x_6700 x_6701 x_6702 x_6703 x_6704 x_6705 f_6706 f_6707 b_x_6699 b_x_6702 b_x_6705 e_x_6698_0 e_x_6698_1 e_x_6698_2 e_x_6698_3 e_x_6698_4 e_x_6698_5 hB => ?_)
                  obtain ⟨hP, hD⟩ := Bw.goN (ws' := [(oc7 oM iM_thrown rM_tape iM_taped iM_size x_6698 x_6699 x_6700 x_6701 x_6702 x_6703 x_6704 iM_trouble rM_letters x_6705 iM_hasCourt rM_r rM_fresh rM_told rM_read rM_st rM_undone rM_kept iM_undos iM_images rM_fresher iM_fresherSize iM_scale iM_night rM_heardRow rM_cutRow iM_breaths iM_cutMany iM_allBreaths rM_trial rM_words iM_fewestBreaths iM_orderMany iM_orderSum iM_leastOrder rM_often iM_setMany iM_someOf iM_allOf iM_allWeight iM_enoughWeight iM_worthSum iM_firstRest iM_leastDrawn), (arI rM_tape kM_tape 900 fM_tape), (arI rM_letters kM_letters 8 f_6706), (arI rM_fresh kM_fresh 287 f_6707), (arI rM_read kM_read 90 fM_read), (arI rM_fresher kM_fresher 8 fM_fresher)]) hB rfl ht hP hD _ hMs hk1 hFc rfl
                  clear hz1 hk1 hvm ht hB hMs
                  have pl_f_6707 := e_x_6698_4.lins
                  have hG := hG.trans (un10_eq e_x_6698_5)
                  clear e_x_6668_1
                  clear e_x_6668_4
                  refine lv_goto (tgt := 233) hx hb dX7_readLine_205 (by decide) ?_
                  exact wq_v hx hb hr 0 trivial (fun t ht hW => ⟨x_6698, x_6699, x_6700, x_6701, x_6702, x_6703, x_6704, x_6705, iM_fresherSize, f_6706, f_6707, fM_read, fM_fresher, b_x_6699, b_x_6702, b_x_6705, (om_ac7239fc e_x_6609_0 e_x_6623_0 e_x_6637_0 e_x_6651_0 e_x_6668_0 e_x_6698_0), e_x_6698_1, (om_ac7239fc e_x_6609_2 e_x_6623_2 e_x_6637_2 e_x_6651_2 e_x_6668_2 e_x_6698_2), (fun h9 => (om_ab9846f4 e_x_6609_0 e_x_6623_0 e_x_6637_0 e_x_6651_0 e_x_6668_0 (e_x_6698_3 ⟨h9.1, h9.2⟩))), e_x_6698_4, hG, Bw.to hP hD hK ht hW⟩) hS dX7_readLine_233 hlocks
              · skip
                have hG := hG.trans (if_neg c_6664)
                have gc_6664 := ti_ne c_6664 rfl kc_0
                replace gc_6664 : (-1) * x_6663.toInt + 1 ≤ 0 := om_e3003f79 gc_6664 dx_6663.1
                have h_6708 : x_6653.toInt = 2 := lx_6663 (om_7907a7c1 dx_6663.2 gc_6664)
                clear lx_6663
                have h_6709 : x_6655.toInt ≤ 8 := e_x_6651_1 h_6708
                clear e_x_6651_1
                refine lv_aload_n hx hb dX7_readLine_170 rfl (lv_at hl 0 rfl) ?_
                have hMs := ml_of hD [true, true, true, true, true, false] (wc := [(oc7 oM iM_thrown rM_tape iM_taped iM_size x_6651 x_6652 x_6653 x_6654 x_6655 x_6656 x_6657 iM_trouble rM_letters x_6658 iM_hasCourt rM_r rM_fresh rM_told rM_read rM_st rM_undone rM_kept iM_undos iM_images rM_fresher iM_fresherSize iM_scale iM_night rM_heardRow rM_cutRow iM_breaths iM_cutMany iM_allBreaths rM_trial rM_words iM_fewestBreaths iM_orderMany iM_orderSum iM_leastOrder rM_often iM_setMany iM_someOf iM_allOf iM_allWeight iM_enoughWeight iM_worthSum iM_firstRest iM_leastDrawn), (arI rM_tape kM_tape 900 fM_tape), (arI rM_letters kM_letters 8 f_6659), (arI rM_fresh kM_fresh 287 fM_fresh), (arI rM_read kM_read 90 fM_read)]) rfl
                have hFc := va_freeM hD hS hA _ hMs
                refine va_callv (va_runV (As := []) (rest := []) ⟨hx, hb, hml, hown, hts⟩ (tX7_throneLine l dC dI _ oM iM_thrown rM_tape fM_tape kM_tape iM_taped iM_size x_6651 x_6652 x_6653 x_6654 x_6655 x_6656 x_6657 iM_trouble rM_letters f_6659 kM_letters x_6658 iM_hasCourt rM_r rM_fresh fM_fresh kM_fresh rM_told rM_read fM_read kM_read rM_st rM_undone rM_kept iM_undos iM_images rM_fresher iM_fresherSize iM_scale iM_night rM_heardRow rM_cutRow iM_breaths iM_cutMany iM_allBreaths rM_trial rM_words iM_fewestBreaths iM_orderMany iM_orderSum iM_leastOrder rM_often iM_setMany iM_someOf iM_allOf iM_allWeight iM_enoughWeight iM_worthSum iM_firstRest iM_leastDrawn b_iM_taped b_iM_size b_x_6652 b_x_6655 b_x_6658 b_iM_hasCourt b_iM_undos b_iM_images b_iM_scale b_iM_breaths b_iM_cutMany (fun h9 => h_6709) r_P) (cwV 0 hts (wd_V wd_490 wd_491 wd_492 wd_5 (wd_c wd_493)) rfl rfl rfl dv_yX7_throneLine_0 ⟨Nat.le_of_ble_eq_true rfl, Nat.le_of_ble_eq_true rfl⟩) ⟨Pw.fb, recvX7 hK hP (q0 := 0) rfl, fun U hU hW => Pw.to (hP.ms _ hMs) (hD.ms _ hMs) (hK.ms [true, true, true, true, false] rfl) hE hS hFc hU hW⟩ rfl rfl hl.1 rfl (lv_room (Nat.le_of_ble_eq_true rfl)) dX7_readLine_171 ⟨Nat.le_of_ble_eq_true rfl, Nat.le_of_ble_eq_true rfl⟩) hS (fun q _ h => hFc q h) hFc (fun u t H locs ht hvm hw hB hz1 hk1 hS => ?_)
                refine ex_10_9 hB (fun x_6710 x_6711 x_6712 x_6713 x_6714 x_6715 x_6716 x_6717 f_6718 f_6719 b_x_6711 b_x_6714 b_x_6717 e_x_6710_0 e_x_6710_1 e_x_6710_2 e_x_6710_3 e_x_6710_4 e_x_6710_5 hB => ?_)
                obtain ⟨hP, hD⟩ := Bw.goN (ws' := [(oc7 oM iM_thrown rM_tape iM_taped iM_size x_6710 x_6711 x_6712 x_6713 x_6714 x_6715 x_6716 iM_trouble rM_letters x_6717 iM_hasCourt rM_r rM_fresh rM_told rM_read rM_st rM_undone rM_kept iM_undos iM_images rM_fresher iM_fresherSize iM_scale iM_night rM_heardRow rM_cutRow iM_breaths iM_cutMany iM_allBreaths rM_trial rM_words iM_fewestBreaths iM_orderMany iM_orderSum iM_leastOrder rM_often iM_setMany iM_someOf iM_allOf iM_allWeight iM_enoughWeight iM_worthSum iM_firstRest iM_leastDrawn), (arI rM_tape kM_tape 900 fM_tape), (arI rM_letters kM_letters 8 f_6718), (arI rM_fresh kM_fresh 287 f_6719), (arI rM_read kM_read 90 fM_read), (arI rM_fresher kM_fresher 8 fM_fresher)]) hB rfl ht hP hD _ hMs hk1 hFc rfl
                clear hz1 hk1 hvm ht hB hMs
                have pl_f_6719 := e_x_6710_4.lins
                have hG := hG.trans (un10_eq e_x_6710_5)
                clear e_x_6651_4
                refine lv_goto (tgt := 233) hx hb dX7_readLine_174 (by decide) ?_
                exact wq_v hx hb hr 0 trivial (fun t ht hW => ⟨x_6710, x_6711, x_6712, x_6713, x_6714, x_6715, x_6716, x_6717, iM_fresherSize, f_6718, f_6719, fM_read, fM_fresher, b_x_6711, b_x_6714, b_x_6717, (om_dcd74bf2 e_x_6609_0 e_x_6623_0 e_x_6637_0 e_x_6651_0 e_x_6710_0), e_x_6710_1, (om_dcd74bf2 e_x_6609_2 e_x_6623_2 e_x_6637_2 e_x_6651_2 e_x_6710_2), (fun h9 => (om_cad042f1 e_x_6609_0 e_x_6623_0 e_x_6637_0 e_x_6651_0 (e_x_6710_3 ⟨h9.1, h9.2⟩))), e_x_6710_4, hG, Bw.to hP hD hK ht hW⟩) hS dX7_readLine_233 hlocks
            · skip
              have hG := hG.trans (if_neg c_6661)
              have gc_6661 := ti_ne c_6661 rfl kc_0
              replace gc_6661 : (-1) * x_6660.toInt + 1 ≤ 0 := om_e3003f79 gc_6661 dx_6660.1
              have h_6720 := e_x_6651_3 (by omega)
              clear e_x_6651_3
              refine lv_aload_n hx hb dX7_readLine_153 rfl (lv_at hl 0 rfl) ?_
              refine lv_iconst (v := 3) hx hb dX7_readLine_154 (by decide) ?_
              have hFc := va_freeI hD hS hA
              refine va_callv (va_runV (As := [.int 3]) (rest := []) ⟨hx, hb, hml, hown, hts⟩ (tX7_innerLine l dC dI _ oM iM_thrown rM_tape fM_tape kM_tape iM_taped iM_size x_6651 x_6652 x_6653 x_6654 x_6655 x_6656 x_6657 iM_trouble rM_letters f_6659 kM_letters x_6658 iM_hasCourt rM_r rM_fresh fM_fresh kM_fresh rM_told rM_read fM_read kM_read rM_st rM_undone rM_kept iM_undos iM_images rM_fresher fM_fresher kM_fresher iM_fresherSize iM_scale iM_night rM_heardRow rM_cutRow iM_breaths iM_cutMany iM_allBreaths rM_trial rM_words iM_fewestBreaths iM_orderMany iM_orderSum iM_leastOrder rM_often iM_setMany iM_someOf iM_allOf iM_allWeight iM_enoughWeight iM_worthSum iM_firstRest iM_leastDrawn 3 b_iM_taped b_iM_size b_x_6652 b_x_6655 b_x_6658 b_iM_hasCourt b_iM_undos b_iM_images b_iM_scale b_iM_breaths b_iM_cutMany e_x_6651_1 r_P ⟨(om_bf54f653 kc_3), (om_6eb7c803 kc_3)⟩ (by intro h9; have q0 := kc_0; have q1 := kc_1; have q2 := kc_2; have q3 := kc_3; omega) (by intro h9; have q0 := kc_0; have q1 := kc_1; have q2 := kc_2; have q3 := kc_3; omega)) (cwV 1 hts (wd_V wd_482 wd_483 wd_484 wd_5 (wd_c wd_485)) rfl rfl rfl dv_yX7_innerLine_1 ⟨Nat.le_of_ble_eq_true rfl, Nat.le_of_ble_eq_true rfl⟩) ⟨Pw.fb, recvX7 hK hP (q0 := 0) rfl, fun U hU hW => Pw.to hP hD hK hE hS hFc hU hW⟩ rfl rfl hl.1 rfl (lv_room (Nat.le_of_ble_eq_true rfl)) dX7_readLine_155 ⟨Nat.le_of_ble_eq_true rfl, Nat.le_of_ble_eq_true rfl⟩) hS (fun q _ h => hFc q h) hFc (fun u t H locs ht hvm hw hB hz1 hk1 hS => ?_)
              refine ex_13_9 hB (fun x_6721 x_6722 x_6723 x_6724 x_6725 x_6726 x_6727 x_6728 x_6729 f_6730 f_6731 f_6732 f_6733 b_x_6722 b_x_6725 b_x_6728 e_x_6721_0 e_x_6721_1 e_x_6721_2 e_x_6721_3 e_x_6721_4 e_x_6721_5 hB => ?_)
              obtain ⟨hP, hD⟩ := Bw.goA (ws' := [(oc7 oM iM_thrown rM_tape iM_taped iM_size x_6721 x_6722 x_6723 x_6724 x_6725 x_6726 x_6727 iM_trouble rM_letters x_6728 iM_hasCourt rM_r rM_fresh rM_told rM_read rM_st rM_undone rM_kept iM_undos iM_images rM_fresher x_6729 iM_scale iM_night rM_heardRow rM_cutRow iM_breaths iM_cutMany iM_allBreaths rM_trial rM_words iM_fewestBreaths iM_orderMany iM_orderSum iM_leastOrder rM_often iM_setMany iM_someOf iM_allOf iM_allWeight iM_enoughWeight iM_worthSum iM_firstRest iM_leastDrawn), (arI rM_tape kM_tape 900 fM_tape), (arI rM_letters kM_letters 8 f_6730), (arI rM_fresh kM_fresh 287 f_6731), (arI rM_read kM_read 90 f_6732), (arI rM_fresher kM_fresher 8 f_6733)]) hB rfl ht hFc rfl
              clear hz1 hk1 hvm ht hB
              have pl_f_6731 := e_x_6721_4.lins
              have hG := hG.trans (un13_eq e_x_6721_5)
              clear e_x_6651_1
              clear e_x_6651_4
              refine lv_goto (tgt := 233) hx hb dX7_readLine_158 (by decide) ?_
              exact wq_v hx hb hr 0 trivial (fun t ht hW => ⟨x_6721, x_6722, x_6723, x_6724, x_6725, x_6726, x_6727, x_6728, x_6729, f_6730, f_6731, f_6732, f_6733, b_x_6722, b_x_6725, b_x_6728, (om_dcd74bf2 e_x_6609_0 e_x_6623_0 e_x_6637_0 e_x_6651_0 e_x_6721_0), e_x_6721_1, (om_dcd74bf2 e_x_6609_2 e_x_6623_2 e_x_6637_2 e_x_6651_2 e_x_6721_2), (fun h9 => (om_cad042f1 e_x_6609_0 e_x_6623_0 e_x_6637_0 e_x_6651_0 (e_x_6721_3 ⟨h9.1, h9.2⟩))), e_x_6721_4, hG, Bw.to hP hD hK ht hW⟩) hS dX7_readLine_233 hlocks
          · skip
            have hG := hG.trans (if_neg c_6650)
            have gc_6650 := ti_nle c_6650 kc_8 rfl
            refine lv_aload_n hx hb dX7_readLine_131 rfl (lv_at hl 0 rfl) ?_
            refine va_get (D := (dC, dI)) (ci := 7) (v := .ref rM_fresh) (C := RX7) (T := TX7) (N := 48) hx hb hts inX7 hown hK hP 0 rfl rfl 16 (by decide) (hts _ wd_156) (fun _ h9 => h9) rfl dX7_readLine_132 ?_
            refine lv_bipush (v := 8) hx hb dX7_readLine_135 (by decide) ?_
            refine va_iald hx hb hK hP 3 2 rfl rfl (by unfold vp_in; decide) dX7_readLine_137 ?_
            refine lv_topi (fun x_6734 ex_6734 => ?_)
            have hG := hG.trans (lt_eq ex_6734)
            have cx_6734 : (fM_fresh 8).toInt = x_6734.toInt := congrArg Int32.toInt (show fM_fresh 8 = x_6734 from ex_6734.symm)
            refine lv_iconst (v := 2) hx hb dX7_readLine_138 (by decide) ?_
            refine vz_jgeX hx hb dX7_readLine_139 dX7_readLine_142 dX7_readLine_143 dX7_readLine_146 (fun x_6735 ex_6735 b_x_6735 j_x_6735 => ?_)
            have hG := hG.trans (lt_eq ex_6735)
            have j_x_6735 : 1 ≤ x_6735.toInt → x_6734.toInt < 2 := fun h9 => by have h8 := j_x_6735 h9; rw [kc_2] at h8; exact h8
            have hMs := ml_of hD [true, true, true, true, true, false] (wc := [(oc7 oM iM_thrown rM_tape iM_taped iM_size x_6637 x_6638 x_6639 x_6640 x_6641 x_6642 x_6643 iM_trouble rM_letters x_6644 iM_hasCourt rM_r rM_fresh rM_told rM_read rM_st rM_undone rM_kept iM_undos iM_images rM_fresher iM_fresherSize iM_scale iM_night rM_heardRow rM_cutRow iM_breaths iM_cutMany iM_allBreaths rM_trial rM_words iM_fewestBreaths iM_orderMany iM_orderSum iM_leastOrder rM_often iM_setMany iM_someOf iM_allOf iM_allWeight iM_enoughWeight iM_worthSum iM_firstRest iM_leastDrawn), (arI rM_tape kM_tape 900 fM_tape), (arI rM_letters kM_letters 8 f_6645), (arI rM_fresh kM_fresh 287 fM_fresh), (arI rM_read kM_read 90 fM_read)]) rfl
            have hFc := va_freeM hD hS hA _ hMs
            refine va_calli (va_runV (As := [.ref sa_6648, .int x_6735]) (rest := []) ⟨hx, hb, hml, hown, hts⟩ (tX7_begins l dC dI _ oM iM_thrown rM_tape fM_tape kM_tape iM_taped iM_size x_6637 x_6638 x_6639 x_6640 x_6641 x_6642 x_6643 iM_trouble rM_letters f_6645 kM_letters x_6644 iM_hasCourt rM_r rM_fresh fM_fresh kM_fresh rM_told rM_read fM_read kM_read rM_st rM_undone rM_kept iM_undos iM_images rM_fresher iM_fresherSize iM_scale iM_night rM_heardRow rM_cutRow iM_breaths iM_cutMany iM_allBreaths rM_trial rM_words iM_fewestBreaths iM_orderMany iM_orderSum iM_leastOrder rM_often iM_setMany iM_someOf iM_allOf iM_allWeight iM_enoughWeight iM_worthSum iM_firstRest iM_leastDrawn sa_6648 x_6735 vsa_6648 nsa_6648 fsa_6648 b_iM_taped b_iM_size b_x_6638 b_x_6641 b_x_6644 b_iM_hasCourt b_iM_undos b_iM_images b_iM_scale b_iM_breaths b_iM_cutMany e_x_6637_1 r_P (Nat.le_trans (Nat.le_of_eq hnesa_6648) (by decide)) (by first | assumption | (have q0 := kc_0; have q1 := kc_1; first | exact ⟨by omega, by omega⟩ | omega) | decide | (intro h; exact absurd h (by decide)))) (cwV 2 hts (wd_V wd_450 wd_451 wd_452 wd_5 (wd_c wd_453)) rfl rfl rfl dv_yX7_begins_2 ⟨Nat.le_of_ble_eq_true rfl, Nat.le_of_ble_eq_true rfl⟩) ⟨Pq.fb, recvX7 hK hP (q0 := 0) rfl, fun U hU hW => Pq.to (hP.ms _ hMs) (hD.ms _ hMs) (hK.ms [true, true, true, true, false] rfl) hSsa_6648 hE hS hFc hU hW⟩ rfl rfl hl.1 rfl (lv_room (Nat.le_of_ble_eq_true rfl)) dX7_readLine_147 ⟨Nat.le_of_ble_eq_true rfl, Nat.le_of_ble_eq_true rfl⟩) hS (fun q _ h => hFc q h) hFc (fun r u t H locs ht hvm hw hB hz1 hk1 hS => ?_)
            have hru9 := hw.2
            have hw := hw.1
            refine ex_9_9 hB (fun x_6736 x_6737 x_6738 x_6739 x_6740 x_6741 x_6742 x_6743 f_6744 b_x_6737 b_x_6740 b_x_6743 e_x_6736_0 e_x_6736_1 e_x_6736_2 e_x_6736_3 e_x_6736_4 e_x_6736_5 hB => ?_)
            obtain ⟨hP, hD⟩ := Bw.goN (ws' := [(oc7 oM iM_thrown rM_tape iM_taped iM_size x_6736 x_6737 x_6738 x_6739 x_6740 x_6741 x_6742 iM_trouble rM_letters x_6743 iM_hasCourt rM_r rM_fresh rM_told rM_read rM_st rM_undone rM_kept iM_undos iM_images rM_fresher iM_fresherSize iM_scale iM_night rM_heardRow rM_cutRow iM_breaths iM_cutMany iM_allBreaths rM_trial rM_words iM_fewestBreaths iM_orderMany iM_orderSum iM_leastOrder rM_often iM_setMany iM_someOf iM_allOf iM_allWeight iM_enoughWeight iM_worthSum iM_firstRest iM_leastDrawn), (arI rM_tape kM_tape 900 fM_tape), (arI rM_letters kM_letters 8 f_6744), (arI rM_fresh kM_fresh 287 fM_fresh), (arI rM_read kM_read 90 fM_read), (arI rM_fresher kM_fresher 8 fM_fresher)]) hB rfl ht hP hD _ hMs hk1 hFc rfl
            clear hz1 hk1 hvm ht hB hMs
            rw [← hru9] at e_x_6736_5
            obtain ⟨x_6745, rfl⟩ : ∃ z, z = r := ⟨_, rfl⟩
            have hG := hG.trans (un10_eq e_x_6736_5)
            have bx_6745 := hw.1
            have dx_6745 := bz_tb bx_6745
            have lx_6745 := hw.2
            clear e_x_6637_1
            clear e_x_6637_4
            refine lv_if_eq (tgt := 161) hx hb dX7_readLine_150 (by decide) (fun c_6746 => ?_) (fun c_6746 => ?_)
            · skip
              have hG := hG.trans (if_pos c_6746)
              have gc_6746 := ti_eq c_6746 rfl kc_0
              clear e_x_6736_3
              refine lv_aload_n hx hb dX7_readLine_161 rfl (lv_at hl 0 rfl) ?_
              obtain ⟨sa_6747, vsa_6747, nsa_6747, fsa_6747, hnsa_6747, hnesa_6747, hfesa_6747, hRsa_6747, hSsa_6747⟩ := hE.2.2.1 (144, "throne", [116, 104, 114, 111, 110, 101]) (by decide)
              have hG := hG.trans (lt_eq hnesa_6747)
              have hG := hG.trans (lt_eq hfesa_6747)
              refine va_ldcS hx hb hown hRsa_6747 dX7_readLine_162 ?_
              have hMs := ml_of hD [true, false, true, false, false, false] (wc := [(oc7 oM iM_thrown rM_tape iM_taped iM_size x_6736 x_6737 x_6738 x_6739 x_6740 x_6741 x_6742 iM_trouble rM_letters x_6743 iM_hasCourt rM_r rM_fresh rM_told rM_read rM_st rM_undone rM_kept iM_undos iM_images rM_fresher iM_fresherSize iM_scale iM_night rM_heardRow rM_cutRow iM_breaths iM_cutMany iM_allBreaths rM_trial rM_words iM_fewestBreaths iM_orderMany iM_orderSum iM_leastOrder rM_often iM_setMany iM_someOf iM_allOf iM_allWeight iM_enoughWeight iM_worthSum iM_firstRest iM_leastDrawn), (arI rM_letters kM_letters 8 f_6744)]) rfl
              have hFc := va_freeM hD hS hA _ hMs
              refine va_calli (va_runV (As := [.ref sa_6747]) (rest := []) ⟨hx, hb, hml, hown, hts⟩ (tX7_isWord l dC dI _ oM iM_thrown rM_tape iM_taped iM_size x_6736 x_6737 x_6738 x_6739 x_6740 x_6741 x_6742 iM_trouble rM_letters f_6744 kM_letters x_6743 iM_hasCourt rM_r rM_fresh rM_told rM_read rM_st rM_undone rM_kept iM_undos iM_images rM_fresher iM_fresherSize iM_scale iM_night rM_heardRow rM_cutRow iM_breaths iM_cutMany iM_allBreaths rM_trial rM_words iM_fewestBreaths iM_orderMany iM_orderSum iM_leastOrder rM_often iM_setMany iM_someOf iM_allOf iM_allWeight iM_enoughWeight iM_worthSum iM_firstRest iM_leastDrawn sa_6747 vsa_6747 nsa_6747 fsa_6747 b_iM_taped b_iM_size b_x_6737 b_x_6740 b_x_6743 b_iM_hasCourt b_iM_undos b_iM_images b_iM_scale b_iM_breaths b_iM_cutMany e_x_6736_1 (Nat.le_trans (Nat.le_of_eq hnesa_6747) (by decide))) (cwV 1 hts (wd_V wd_420 wd_421 wd_422 wd_5 (wd_c wd_423)) rfl rfl rfl dv_yX7_isWord_1 ⟨Nat.le_of_ble_eq_true rfl, Nat.le_of_ble_eq_true rfl⟩) ⟨Pq.fb, recvX7 hK hP (q0 := 0) rfl, fun U hU hW => Pq.to (hP.ms _ hMs) (hD.ms _ hMs) (hK.ms [false, true, false, false, false] rfl) hSsa_6747 hE hS hFc hU hW⟩ rfl rfl hl.1 rfl (lv_room (Nat.le_of_ble_eq_true rfl)) dX7_readLine_164 ⟨Nat.le_of_ble_eq_true rfl, Nat.le_of_ble_eq_true rfl⟩) hS (fun q _ h => hFc q h) hFc (fun r u t H locs ht hvm hw hB hz1 hk1 hS => ?_)
              have hru9 := hw.2
              have hw := hw.1
              obtain ⟨hP, hD⟩ := Bw.goN (ws' := [(oc7 oM iM_thrown rM_tape iM_taped iM_size x_6736 x_6737 x_6738 x_6739 x_6740 x_6741 x_6742 iM_trouble rM_letters x_6743 iM_hasCourt rM_r rM_fresh rM_told rM_read rM_st rM_undone rM_kept iM_undos iM_images rM_fresher iM_fresherSize iM_scale iM_night rM_heardRow rM_cutRow iM_breaths iM_cutMany iM_allBreaths rM_trial rM_words iM_fewestBreaths iM_orderMany iM_orderSum iM_leastOrder rM_often iM_setMany iM_someOf iM_allOf iM_allWeight iM_enoughWeight iM_worthSum iM_firstRest iM_leastDrawn), (arI rM_tape kM_tape 900 fM_tape), (arI rM_letters kM_letters 8 f_6744), (arI rM_fresh kM_fresh 287 fM_fresh), (arI rM_read kM_read 90 fM_read), (arI rM_fresher kM_fresher 8 fM_fresher)]) hB rfl ht hP hD _ hMs hk1 hFc rfl
              clear hz1 hk1 hvm ht hB hMs
              obtain ⟨x_6748, rfl⟩ : ∃ z, z = r := ⟨_, rfl⟩
              have hG := hG.trans (lt_eq hru9.symm)
              have bx_6748 := hw.1
              have dx_6748 := bz_tb bx_6748
              have lx_6748 := hw.2
              refine lv_if_eq (tgt := 177) hx hb dX7_readLine_167 (by decide) (fun c_6749 => ?_) (fun c_6749 => ?_)
              · skip
                have hG := hG.trans (if_pos c_6749)
                have gc_6749 := ti_eq c_6749 rfl kc_0
                clear lx_6748
                refine lv_aload_n hx hb dX7_readLine_177 rfl (lv_at hl 0 rfl) ?_
                obtain ⟨sa_6750, vsa_6750, nsa_6750, fsa_6750, hnsa_6750, hnesa_6750, hfesa_6750, hRsa_6750, hSsa_6750⟩ := hE.2.2.1 (146, "unsure", [117, 110, 115, 117, 114, 101]) (by decide)
                have hG := hG.trans (lt_eq hnesa_6750)
                have hG := hG.trans (lt_eq hfesa_6750)
                refine va_ldcS hx hb hown hRsa_6750 dX7_readLine_178 ?_
                refine lv_aload_n hx hb dX7_readLine_180 rfl (lv_at hl 0 rfl) ?_
                refine va_get (D := (dC, dI)) (ci := 7) (v := .ref rM_fresh) (C := RX7) (T := TX7) (N := 48) hx hb hts inX7 hown hK hP 0 rfl rfl 16 (by decide) (hts _ wd_156) (fun _ h9 => h9) rfl dX7_readLine_181 ?_
                refine lv_iconst (v := 3) hx hb dX7_readLine_184 (by decide) ?_
                refine va_iald hx hb hK hP 3 2 rfl rfl (by unfold vp_in; decide) dX7_readLine_185 ?_
                refine lv_topi (fun x_6751 ex_6751 => ?_)
                have hG := hG.trans (lt_eq ex_6751)
                have cx_6751 : (fM_fresh 3).toInt = x_6751.toInt := congrArg Int32.toInt (show fM_fresh 3 = x_6751 from ex_6751.symm)
                refine lv_iconst (v := 4) hx hb dX7_readLine_186 (by decide) ?_
                refine vz_jgeX hx hb dX7_readLine_187 dX7_readLine_190 dX7_readLine_191 dX7_readLine_194 (fun x_6752 ex_6752 b_x_6752 j_x_6752 => ?_)
                have hG := hG.trans (lt_eq ex_6752)
                have j_x_6752 : 1 ≤ x_6752.toInt → x_6751.toInt < 4 := fun h9 => by have h8 := j_x_6752 h9; rw [kc_4] at h8; exact h8
                have hMs := ml_of hD [true, true, true, true, true, false] (wc := [(oc7 oM iM_thrown rM_tape iM_taped iM_size x_6736 x_6737 x_6738 x_6739 x_6740 x_6741 x_6742 iM_trouble rM_letters x_6743 iM_hasCourt rM_r rM_fresh rM_told rM_read rM_st rM_undone rM_kept iM_undos iM_images rM_fresher iM_fresherSize iM_scale iM_night rM_heardRow rM_cutRow iM_breaths iM_cutMany iM_allBreaths rM_trial rM_words iM_fewestBreaths iM_orderMany iM_orderSum iM_leastOrder rM_often iM_setMany iM_someOf iM_allOf iM_allWeight iM_enoughWeight iM_worthSum iM_firstRest iM_leastDrawn), (arI rM_tape kM_tape 900 fM_tape), (arI rM_letters kM_letters 8 f_6744), (arI rM_fresh kM_fresh 287 fM_fresh), (arI rM_read kM_read 90 fM_read)]) rfl
                have hFc := va_freeM hD hS hA _ hMs
                refine va_calli (va_runV (As := [.ref sa_6750, .int x_6752]) (rest := []) ⟨hx, hb, hml, hown, hts⟩ (tX7_begins l dC dI _ oM iM_thrown rM_tape fM_tape kM_tape iM_taped iM_size x_6736 x_6737 x_6738 x_6739 x_6740 x_6741 x_6742 iM_trouble rM_letters f_6744 kM_letters x_6743 iM_hasCourt rM_r rM_fresh fM_fresh kM_fresh rM_told rM_read fM_read kM_read rM_st rM_undone rM_kept iM_undos iM_images rM_fresher iM_fresherSize iM_scale iM_night rM_heardRow rM_cutRow iM_breaths iM_cutMany iM_allBreaths rM_trial rM_words iM_fewestBreaths iM_orderMany iM_orderSum iM_leastOrder rM_often iM_setMany iM_someOf iM_allOf iM_allWeight iM_enoughWeight iM_worthSum iM_firstRest iM_leastDrawn sa_6750 x_6752 vsa_6750 nsa_6750 fsa_6750 b_iM_taped b_iM_size b_x_6737 b_x_6740 b_x_6743 b_iM_hasCourt b_iM_undos b_iM_images b_iM_scale b_iM_breaths b_iM_cutMany e_x_6736_1 r_P (Nat.le_trans (Nat.le_of_eq hnesa_6750) (by decide)) (by first | assumption | (have q0 := kc_0; have q1 := kc_1; first | exact ⟨by omega, by omega⟩ | omega) | decide | (intro h; exact absurd h (by decide)))) (cwV 2 hts (wd_V wd_450 wd_451 wd_452 wd_5 (wd_c wd_453)) rfl rfl rfl dv_yX7_begins_2 ⟨Nat.le_of_ble_eq_true rfl, Nat.le_of_ble_eq_true rfl⟩) ⟨Pq.fb, recvX7 hK hP (q0 := 0) rfl, fun U hU hW => Pq.to (hP.ms _ hMs) (hD.ms _ hMs) (hK.ms [true, true, true, true, false] rfl) hSsa_6750 hE hS hFc hU hW⟩ rfl rfl hl.1 rfl (lv_room (Nat.le_of_ble_eq_true rfl)) dX7_readLine_195 ⟨Nat.le_of_ble_eq_true rfl, Nat.le_of_ble_eq_true rfl⟩) hS (fun q _ h => hFc q h) hFc (fun r u t H locs ht hvm hw hB hz1 hk1 hS => ?_)
                have hru9 := hw.2
                have hw := hw.1
                refine ex_9_9 hB (fun x_6753 x_6754 x_6755 x_6756 x_6757 x_6758 x_6759 x_6760 f_6761 b_x_6754 b_x_6757 b_x_6760 e_x_6753_0 e_x_6753_1 e_x_6753_2 e_x_6753_3 e_x_6753_4 e_x_6753_5 hB => ?_)
                obtain ⟨hP, hD⟩ := Bw.goN (ws' := [(oc7 oM iM_thrown rM_tape iM_taped iM_size x_6753 x_6754 x_6755 x_6756 x_6757 x_6758 x_6759 iM_trouble rM_letters x_6760 iM_hasCourt rM_r rM_fresh rM_told rM_read rM_st rM_undone rM_kept iM_undos iM_images rM_fresher iM_fresherSize iM_scale iM_night rM_heardRow rM_cutRow iM_breaths iM_cutMany iM_allBreaths rM_trial rM_words iM_fewestBreaths iM_orderMany iM_orderSum iM_leastOrder rM_often iM_setMany iM_someOf iM_allOf iM_allWeight iM_enoughWeight iM_worthSum iM_firstRest iM_leastDrawn), (arI rM_tape kM_tape 900 fM_tape), (arI rM_letters kM_letters 8 f_6761), (arI rM_fresh kM_fresh 287 fM_fresh), (arI rM_read kM_read 90 fM_read), (arI rM_fresher kM_fresher 8 fM_fresher)]) hB rfl ht hP hD _ hMs hk1 hFc rfl
                clear hz1 hk1 hvm ht hB hMs
                rw [← hru9] at e_x_6753_5
                obtain ⟨x_6762, rfl⟩ : ∃ z, z = r := ⟨_, rfl⟩
                have hG := hG.trans (un10_eq e_x_6753_5)
                have bx_6762 := hw.1
                have dx_6762 := bz_tb bx_6762
                have lx_6762 := hw.2
                clear e_x_6736_1
                clear e_x_6736_4
                refine lv_if_eq (tgt := 208) hx hb dX7_readLine_198 (by decide) (fun c_6763 => ?_) (fun c_6763 => ?_)
                · skip
                  have hG := hG.trans (if_pos c_6763)
                  have gc_6763 := ti_eq c_6763 rfl kc_0
                  clear e_x_6753_3
                  refine lv_aload_n hx hb dX7_readLine_208 rfl (lv_at hl 0 rfl) ?_
                  obtain ⟨sa_6764, vsa_6764, nsa_6764, fsa_6764, hnsa_6764, hnesa_6764, hfesa_6764, hRsa_6764, hSsa_6764⟩ := hE.2.2.1 (148, "said", [115, 97, 105, 100]) (by decide)
                  have hG := hG.trans (lt_eq hnesa_6764)
                  have hG := hG.trans (lt_eq hfesa_6764)
                  refine va_ldcS hx hb hown hRsa_6764 dX7_readLine_209 ?_
                  have hMs := ml_of hD [true, false, true, false, false, false] (wc := [(oc7 oM iM_thrown rM_tape iM_taped iM_size x_6753 x_6754 x_6755 x_6756 x_6757 x_6758 x_6759 iM_trouble rM_letters x_6760 iM_hasCourt rM_r rM_fresh rM_told rM_read rM_st rM_undone rM_kept iM_undos iM_images rM_fresher iM_fresherSize iM_scale iM_night rM_heardRow rM_cutRow iM_breaths iM_cutMany iM_allBreaths rM_trial rM_words iM_fewestBreaths iM_orderMany iM_orderSum iM_leastOrder rM_often iM_setMany iM_someOf iM_allOf iM_allWeight iM_enoughWeight iM_worthSum iM_firstRest iM_leastDrawn), (arI rM_letters kM_letters 8 f_6761)]) rfl
                  have hFc := va_freeM hD hS hA _ hMs
                  refine va_calli (va_runV (As := [.ref sa_6764]) (rest := []) ⟨hx, hb, hml, hown, hts⟩ (tX7_isWord l dC dI _ oM iM_thrown rM_tape iM_taped iM_size x_6753 x_6754 x_6755 x_6756 x_6757 x_6758 x_6759 iM_trouble rM_letters f_6761 kM_letters x_6760 iM_hasCourt rM_r rM_fresh rM_told rM_read rM_st rM_undone rM_kept iM_undos iM_images rM_fresher iM_fresherSize iM_scale iM_night rM_heardRow rM_cutRow iM_breaths iM_cutMany iM_allBreaths rM_trial rM_words iM_fewestBreaths iM_orderMany iM_orderSum iM_leastOrder rM_often iM_setMany iM_someOf iM_allOf iM_allWeight iM_enoughWeight iM_worthSum iM_firstRest iM_leastDrawn sa_6764 vsa_6764 nsa_6764 fsa_6764 b_iM_taped b_iM_size b_x_6754 b_x_6757 b_x_6760 b_iM_hasCourt b_iM_undos b_iM_images b_iM_scale b_iM_breaths b_iM_cutMany e_x_6753_1 (Nat.le_trans (Nat.le_of_eq hnesa_6764) (by decide))) (cwV 1 hts (wd_V wd_420 wd_421 wd_422 wd_5 (wd_c wd_423)) rfl rfl rfl dv_yX7_isWord_1 ⟨Nat.le_of_ble_eq_true rfl, Nat.le_of_ble_eq_true rfl⟩) ⟨Pq.fb, recvX7 hK hP (q0 := 0) rfl, fun U hU hW => Pq.to (hP.ms _ hMs) (hD.ms _ hMs) (hK.ms [false, true, false, false, false] rfl) hSsa_6764 hE hS hFc hU hW⟩ rfl rfl hl.1 rfl (lv_room (Nat.le_of_ble_eq_true rfl)) dX7_readLine_211 ⟨Nat.le_of_ble_eq_true rfl, Nat.le_of_ble_eq_true rfl⟩) hS (fun q _ h => hFc q h) hFc (fun r u t H locs ht hvm hw hB hz1 hk1 hS => ?_)
                  have hru9 := hw.2
                  have hw := hw.1
                  obtain ⟨hP, hD⟩ := Bw.goN (ws' := [(oc7 oM iM_thrown rM_tape iM_taped iM_size x_6753 x_6754 x_6755 x_6756 x_6757 x_6758 x_6759 iM_trouble rM_letters x_6760 iM_hasCourt rM_r rM_fresh rM_told rM_read rM_st rM_undone rM_kept iM_undos iM_images rM_fresher iM_fresherSize iM_scale iM_night rM_heardRow rM_cutRow iM_breaths iM_cutMany iM_allBreaths rM_trial rM_words iM_fewestBreaths iM_orderMany iM_orderSum iM_leastOrder rM_often iM_setMany iM_someOf iM_allOf iM_allWeight iM_enoughWeight iM_worthSum iM_firstRest iM_leastDrawn), (arI rM_tape kM_tape 900 fM_tape), (arI rM_letters kM_letters 8 f_6761), (arI rM_fresh kM_fresh 287 fM_fresh), (arI rM_read kM_read 90 fM_read), (arI rM_fresher kM_fresher 8 fM_fresher)]) hB rfl ht hP hD _ hMs hk1 hFc rfl
                  clear hz1 hk1 hvm ht hB hMs
                  obtain ⟨x_6765, rfl⟩ : ∃ z, z = r := ⟨_, rfl⟩
                  have hG := hG.trans (lt_eq hru9.symm)
                  have bx_6765 := hw.1
                  have dx_6765 := bz_tb bx_6765
                  have lx_6765 := hw.2
                  refine lv_if_eq (tgt := 224) hx hb dX7_readLine_214 (by decide) (fun c_6766 => ?_) (fun c_6766 => ?_)
                  · skip
                    have hG := hG.trans (if_pos c_6766)
                    have gc_6766 := ti_eq c_6766 rfl kc_0
                    clear lx_6765
                    refine lv_aload_n hx hb dX7_readLine_224 rfl (lv_at hl 0 rfl) ?_
                    refine lv_iconst (v := 1) hx hb dX7_readLine_225 (by decide) ?_
                    refine lv_aload_n hx hb dX7_readLine_226 rfl (lv_at hl 0 rfl) ?_
                    refine va_get (D := (dC, dI)) (ci := 7) (v := .int x_6753) (C := RX7) (T := TX7) (N := 48) hx hb hts inX7 hown hK hP 0 rfl rfl 4 (by decide) (hts _ wd_384) (fun _ h9 => h9) rfl dX7_readLine_227 ?_
                    have hMs := ml_of hD [true, false, false, false, false, false] (wc := [(oc7 oM iM_thrown rM_tape iM_taped iM_size x_6753 x_6754 x_6755 x_6756 x_6757 x_6758 x_6759 iM_trouble rM_letters x_6760 iM_hasCourt rM_r rM_fresh rM_told rM_read rM_st rM_undone rM_kept iM_undos iM_images rM_fresher iM_fresherSize iM_scale iM_night rM_heardRow rM_cutRow iM_breaths iM_cutMany iM_allBreaths rM_trial rM_words iM_fewestBreaths iM_orderMany iM_orderSum iM_leastOrder rM_often iM_setMany iM_someOf iM_allOf iM_allWeight iM_enoughWeight iM_worthSum iM_firstRest iM_leastDrawn)]) rfl
                    have hFc := va_freeM hD hS hA _ hMs
                    refine va_callv (va_runV (As := [.int 1, .int x_6753]) (rest := []) ⟨hx, hb, hml, hown, hts⟩ (tX7_wrong l dC dI _ oM iM_thrown rM_tape iM_taped iM_size x_6753 x_6754 x_6755 x_6756 x_6757 x_6758 x_6759 iM_trouble rM_letters x_6760 iM_hasCourt rM_r rM_fresh rM_told rM_read rM_st rM_undone rM_kept iM_undos iM_images rM_fresher iM_fresherSize iM_scale iM_night rM_heardRow rM_cutRow iM_breaths iM_cutMany iM_allBreaths rM_trial rM_words iM_fewestBreaths iM_orderMany iM_orderSum iM_leastOrder rM_often iM_setMany iM_someOf iM_allOf iM_allWeight iM_enoughWeight iM_worthSum iM_firstRest iM_leastDrawn 1 x_6753 b_iM_taped b_iM_size b_x_6754 b_x_6757 b_x_6760 b_iM_hasCourt b_iM_undos b_iM_images b_iM_scale b_iM_breaths b_iM_cutMany e_x_6753_1) (cwV 2 hts (wd_V wd_430 wd_431 wd_432 wd_5 (wd_c wd_433)) rfl rfl rfl dv_yX7_wrong_2 ⟨Nat.le_of_ble_eq_true rfl, Nat.le_of_ble_eq_true rfl⟩) ⟨Pw.fb, recvX7 hK hP (q0 := 0) rfl, fun U hU hW => Pw.to (hP.ms _ hMs) (hD.ms _ hMs) (hK.ms [false, false, false, false, false] rfl) hE hS hFc hU hW⟩ rfl rfl hl.1 rfl (lv_room (Nat.le_of_ble_eq_true rfl)) dX7_readLine_230 ⟨Nat.le_of_ble_eq_true rfl, Nat.le_of_ble_eq_true rfl⟩) hS (fun q _ h => hFc q h) hFc (fun u t H locs ht hvm hw hB hz1 hk1 hS => ?_)
                    refine ex_3_3 hB (fun x_6767 x_6768 x_6769 b_x_6769 e_x_6767_0 e_x_6767_1 hB => ?_)
                    obtain ⟨hP, hD⟩ := Bw.goN (ws' := [(oc7 oM iM_thrown rM_tape iM_taped iM_size x_6753 x_6754 x_6755 x_6756 x_6757 x_6767 x_6768 iM_trouble rM_letters x_6769 iM_hasCourt rM_r rM_fresh rM_told rM_read rM_st rM_undone rM_kept iM_undos iM_images rM_fresher iM_fresherSize iM_scale iM_night rM_heardRow rM_cutRow iM_breaths iM_cutMany iM_allBreaths rM_trial rM_words iM_fewestBreaths iM_orderMany iM_orderSum iM_leastOrder rM_often iM_setMany iM_someOf iM_allOf iM_allWeight iM_enoughWeight iM_worthSum iM_firstRest iM_leastDrawn), (arI rM_tape kM_tape 900 fM_tape), (arI rM_letters kM_letters 8 f_6761), (arI rM_fresh kM_fresh 287 fM_fresh), (arI rM_read kM_read 90 fM_read), (arI rM_fresher kM_fresher 8 fM_fresher)]) hB rfl ht hP hD _ hMs hk1 hFc rfl
                    clear hz1 hk1 hvm ht hB hMs
                    have hG := hG.trans (un3_eq e_x_6767_1)
                    exact wq_v hx hb hr 0 trivial (fun t ht hW => ⟨x_6753, x_6754, x_6755, x_6756, x_6757, x_6767, x_6768, x_6769, iM_fresherSize, f_6761, fM_fresh, fM_read, fM_fresher, b_x_6754, b_x_6757, b_x_6769, (om_dcd74bf2 e_x_6609_0 e_x_6623_0 e_x_6637_0 e_x_6736_0 e_x_6753_0), e_x_6753_1, (om_00f1c5dd b_iM_failed.2 e_x_6767_0), (fun h9 => False.elim (om_92495247 e_x_6767_0 h9.1)), r_P, hG, Bw.to hP hD hK ht hW⟩) hS dX7_readLine_233 hlocks
                  · skip
                    have hG := hG.trans (if_neg c_6766)
                    have gc_6766 := ti_ne c_6766 rfl kc_0
                    replace gc_6766 : (-1) * x_6765.toInt + 1 ≤ 0 := om_e3003f79 gc_6766 dx_6765.1
                    have h_6770 : x_6755.toInt = 2 := lx_6765 (om_7907a7c1 dx_6765.2 gc_6766)
                    clear lx_6765
                    have h_6771 : x_6757.toInt ≤ 8 := e_x_6753_1 h_6770
                    clear e_x_6753_1
                    refine lv_aload_n hx hb dX7_readLine_217 rfl (lv_at hl 0 rfl) ?_
                    have hMs := ml_of hD [true, true, true, true, true, false] (wc := [(oc7 oM iM_thrown rM_tape iM_taped iM_size x_6753 x_6754 x_6755 x_6756 x_6757 x_6758 x_6759 iM_trouble rM_letters x_6760 iM_hasCourt rM_r rM_fresh rM_told rM_read rM_st rM_undone rM_kept iM_undos iM_images rM_fresher iM_fresherSize iM_scale iM_night rM_heardRow rM_cutRow iM_breaths iM_cutMany iM_allBreaths rM_trial rM_words iM_fewestBreaths iM_orderMany iM_orderSum iM_leastOrder rM_often iM_setMany iM_someOf iM_allOf iM_allWeight iM_enoughWeight iM_worthSum iM_firstRest iM_leastDrawn), (arI rM_tape kM_tape 900 fM_tape), (arI rM_letters kM_letters 8 f_6761), (arI rM_fresh kM_fresh 287 fM_fresh), (arI rM_read kM_read 90 fM_read)]) rfl
                    have hFc := va_freeM hD hS hA _ hMs
                    refine va_callv (va_runV (As := []) (rest := []) ⟨hx, hb, hml, hown, hts⟩ (tX7_saidLine l dC dI _ oM iM_thrown rM_tape fM_tape kM_tape iM_taped iM_size x_6753 x_6754 x_6755 x_6756 x_6757 x_6758 x_6759 iM_trouble rM_letters f_6761 kM_letters x_6760 iM_hasCourt rM_r rM_fresh fM_fresh kM_fresh rM_told rM_read fM_read kM_read rM_st rM_undone rM_kept iM_undos iM_images rM_fresher iM_fresherSize iM_scale iM_night rM_heardRow rM_cutRow iM_breaths iM_cutMany iM_allBreaths rM_trial rM_words iM_fewestBreaths iM_orderMany iM_orderSum iM_leastOrder rM_often iM_setMany iM_someOf iM_allOf iM_allWeight iM_enoughWeight iM_worthSum iM_firstRest iM_leastDrawn b_iM_taped b_iM_size b_x_6754 b_x_6757 b_x_6760 b_iM_hasCourt b_iM_undos b_iM_images b_iM_scale b_iM_breaths b_iM_cutMany (fun h9 => h_6771) r_P) (cwV 0 hts (wd_V wd_498 wd_499 wd_500 wd_5 (wd_c wd_501)) rfl rfl rfl dv_yX7_saidLine_0 ⟨Nat.le_of_ble_eq_true rfl, Nat.le_of_ble_eq_true rfl⟩) ⟨Pw.fb, recvX7 hK hP (q0 := 0) rfl, fun U hU hW => Pw.to (hP.ms _ hMs) (hD.ms _ hMs) (hK.ms [true, true, true, true, false] rfl) hE hS hFc hU hW⟩ rfl rfl hl.1 rfl (lv_room (Nat.le_of_ble_eq_true rfl)) dX7_readLine_218 ⟨Nat.le_of_ble_eq_true rfl, Nat.le_of_ble_eq_true rfl⟩) hS (fun q _ h => hFc q h) hFc (fun u t H locs ht hvm hw hB hz1 hk1 hS => ?_)
                    refine ex_10_9 hB (fun x_6772 x_6773 x_6774 x_6775 x_6776 x_6777 x_6778 x_6779 f_6780 f_6781 b_x_6773 b_x_6776 b_x_6779 e_x_6772_0 e_x_6772_1 e_x_6772_2 e_x_6772_3 e_x_6772_4 e_x_6772_5 hB => ?_)
                    obtain ⟨hP, hD⟩ := Bw.goN (ws' := [(oc7 oM iM_thrown rM_tape iM_taped iM_size x_6772 x_6773 x_6774 x_6775 x_6776 x_6777 x_6778 iM_trouble rM_letters x_6779 iM_hasCourt rM_r rM_fresh rM_told rM_read rM_st rM_undone rM_kept iM_undos iM_images rM_fresher iM_fresherSize iM_scale iM_night rM_heardRow rM_cutRow iM_breaths iM_cutMany iM_allBreaths rM_trial rM_words iM_fewestBreaths iM_orderMany iM_orderSum iM_leastOrder rM_often iM_setMany iM_someOf iM_allOf iM_allWeight iM_enoughWeight iM_worthSum iM_firstRest iM_leastDrawn), (arI rM_tape kM_tape 900 fM_tape), (arI rM_letters kM_letters 8 f_6780), (arI rM_fresh kM_fresh 287 f_6781), (arI rM_read kM_read 90 fM_read), (arI rM_fresher kM_fresher 8 fM_fresher)]) hB rfl ht hP hD _ hMs hk1 hFc rfl
                    clear hz1 hk1 hvm ht hB hMs
                    have pl_f_6781 := e_x_6772_4.lins
                    have hG := hG.trans (un10_eq e_x_6772_5)
                    clear e_x_6753_4
                    refine lv_goto (tgt := 233) hx hb dX7_readLine_221 (by decide) ?_
                    exact wq_v hx hb hr 0 trivial (fun t ht hW => ⟨x_6772, x_6773, x_6774, x_6775, x_6776, x_6777, x_6778, x_6779, iM_fresherSize, f_6780, f_6781, fM_read, fM_fresher, b_x_6773, b_x_6776, b_x_6779, (om_ac7239fc e_x_6609_0 e_x_6623_0 e_x_6637_0 e_x_6736_0 e_x_6753_0 e_x_6772_0), e_x_6772_1, (om_ac7239fc e_x_6609_2 e_x_6623_2 e_x_6637_2 e_x_6736_2 e_x_6753_2 e_x_6772_2), (fun h9 => (om_ab9846f4 e_x_6609_0 e_x_6623_0 e_x_6637_0 e_x_6736_0 e_x_6753_0 (e_x_6772_3 ⟨h9.1, h9.2⟩))), e_x_6772_4, hG, Bw.to hP hD hK ht hW⟩) hS dX7_readLine_233 hlocks
                · skip
                  have hG := hG.trans (if_neg c_6763)
                  have gc_6763 := ti_ne c_6763 rfl kc_0
                  replace gc_6763 : (-1) * x_6762.toInt + 1 ≤ 0 := om_e3003f79 gc_6763 dx_6762.1
                  have h_6782 := e_x_6753_3 (by omega)
                  clear e_x_6753_3
                  refine lv_aload_n hx hb dX7_readLine_201 rfl (lv_at hl 0 rfl) ?_
                  have hMs := ml_of hD [true, true, true, true, true, false] (wc := [(oc7 oM iM_thrown rM_tape iM_taped iM_size x_6753 x_6754 x_6755 x_6756 x_6757 x_6758 x_6759 iM_trouble rM_letters x_6760 iM_hasCourt rM_r rM_fresh rM_told rM_read rM_st rM_undone rM_kept iM_undos iM_images rM_fresher iM_fresherSize iM_scale iM_night rM_heardRow rM_cutRow iM_breaths iM_cutMany iM_allBreaths rM_trial rM_words iM_fewestBreaths iM_orderMany iM_orderSum iM_leastOrder rM_often iM_setMany iM_someOf iM_allOf iM_allWeight iM_enoughWeight iM_worthSum iM_firstRest iM_leastDrawn), (arI rM_tape kM_tape 900 fM_tape), (arI rM_letters kM_letters 8 f_6761), (arI rM_fresh kM_fresh 287 fM_fresh), (arI rM_read kM_read 90 fM_read)]) rfl
                  have hFc := va_freeM hD hS hA _ hMs
                  refine va_callv (va_runV (As := []) (rest := []) ⟨hx, hb, hml, hown, hts⟩ (tX7_unsureLine l dC dI _ oM iM_thrown rM_tape fM_tape kM_tape iM_taped iM_size x_6753 x_6754 x_6755 x_6756 x_6757 x_6758 x_6759 iM_trouble rM_letters f_6761 kM_letters x_6760 iM_hasCourt rM_r rM_fresh fM_fresh kM_fresh rM_told rM_read fM_read kM_read rM_st rM_undone rM_kept iM_undos iM_images rM_fresher iM_fresherSize iM_scale iM_night rM_heardRow rM_cutRow iM_breaths iM_cutMany iM_allBreaths rM_trial rM_words iM_fewestBreaths iM_orderMany iM_orderSum iM_leastOrder rM_often iM_setMany iM_someOf iM_allOf iM_allWeight iM_enoughWeight iM_worthSum iM_firstRest iM_leastDrawn b_iM_taped b_iM_size b_x_6754 b_x_6757 b_x_6760 b_iM_hasCourt b_iM_undos b_iM_images b_iM_scale b_iM_breaths b_iM_cutMany e_x_6753_1 r_P (by intro h9; have q0 := kc_0; have q1 := kc_1; have q2 := kc_2; have q3 := kc_3; omega)) (cwV 0 hts (wd_V wd_494 wd_495 wd_496 wd_5 (wd_c wd_497)) rfl rfl rfl dv_yX7_unsureLine_0 ⟨Nat.le_of_ble_eq_true rfl, Nat.le_of_ble_eq_true rfl⟩) ⟨Pw.fb, recvX7 hK hP (q0 := 0) rfl, fun U hU hW => Pw.to (hP.ms _ hMs) (hD.ms _ hMs) (hK.ms [true, true, true, true, false] rfl) hE hS hFc hU hW⟩ rfl rfl hl.1 rfl (lv_room (Nat.le_of_ble_eq_true rfl)) dX7_readLine_202 ⟨Nat.le_of_ble_eq_true rfl, Nat.le_of_ble_eq_true rfl⟩) hS (fun q _ h => hFc q h) hFc (fun u t H locs ht hvm hw hB hz1 hk1 hS => ?_)
                  refine ex_10_9 hB (fun x_6783 x_6784 x_6785 x_6786 x_6787 x_6788 x_6789 x_6790 f_6791 f_6792 b_x_6784 b_x_6787 b_x_6790 e_x_6783_0 e_x_6783_1 e_x_6783_2 e_x_6783_3 e_x_6783_4 e_x_6783_5 hB => ?_)
                  obtain ⟨hP, hD⟩ := Bw.goN (ws' := [(oc7 oM iM_thrown rM_tape iM_taped iM_size x_6783 x_6784 x_6785 x_6786 x_6787 x_6788 x_6789 iM_trouble rM_letters x_6790 iM_hasCourt rM_r rM_fresh rM_told rM_read rM_st rM_undone rM_kept iM_undos iM_images rM_fresher iM_fresherSize iM_scale iM_night rM_heardRow rM_cutRow iM_breaths iM_cutMany iM_allBreaths rM_trial rM_words iM_fewestBreaths iM_orderMany iM_orderSum iM_leastOrder rM_often iM_setMany iM_someOf iM_allOf iM_allWeight iM_enoughWeight iM_worthSum iM_firstRest iM_leastDrawn), (arI rM_tape kM_tape 900 fM_tape), (arI rM_letters kM_letters 8 f_6791), (arI rM_fresh kM_fresh 287 f_6792), (arI rM_read kM_read 90 fM_read), (arI rM_fresher kM_fresher 8 fM_fresher)]) hB rfl ht hP hD _ hMs hk1 hFc rfl
                  clear hz1 hk1 hvm ht hB hMs
                  have pl_f_6792 := e_x_6783_4.lins
                  have hG := hG.trans (un10_eq e_x_6783_5)
                  clear e_x_6753_1
                  clear e_x_6753_4
                  refine lv_goto (tgt := 233) hx hb dX7_readLine_205 (by decide) ?_
                  exact wq_v hx hb hr 0 trivial (fun t ht hW => ⟨x_6783, x_6784, x_6785, x_6786, x_6787, x_6788, x_6789, x_6790, iM_fresherSize, f_6791, f_6792, fM_read, fM_fresher, b_x_6784, b_x_6787, b_x_6790, (om_ac7239fc e_x_6609_0 e_x_6623_0 e_x_6637_0 e_x_6736_0 e_x_6753_0 e_x_6783_0), e_x_6783_1, (om_ac7239fc e_x_6609_2 e_x_6623_2 e_x_6637_2 e_x_6736_2 e_x_6753_2 e_x_6783_2), (fun h9 => (om_ab9846f4 e_x_6609_0 e_x_6623_0 e_x_6637_0 e_x_6736_0 e_x_6753_0 (e_x_6783_3 ⟨h9.1, h9.2⟩))), e_x_6783_4, hG, Bw.to hP hD hK ht hW⟩) hS dX7_readLine_233 hlocks
              · skip
                have hG := hG.trans (if_neg c_6749)
                have gc_6749 := ti_ne c_6749 rfl kc_0
                replace gc_6749 : (-1) * x_6748.toInt + 1 ≤ 0 := om_e3003f79 gc_6749 dx_6748.1
                have h_6793 : x_6738.toInt = 2 := lx_6748 (om_7907a7c1 dx_6748.2 gc_6749)
                clear lx_6748
                have h_6794 : x_6740.toInt ≤ 8 := e_x_6736_1 h_6793
                clear e_x_6736_1
                refine lv_aload_n hx hb dX7_readLine_170 rfl (lv_at hl 0 rfl) ?_
                have hMs := ml_of hD [true, true, true, true, true, false] (wc := [(oc7 oM iM_thrown rM_tape iM_taped iM_size x_6736 x_6737 x_6738 x_6739 x_6740 x_6741 x_6742 iM_trouble rM_letters x_6743 iM_hasCourt rM_r rM_fresh rM_told rM_read rM_st rM_undone rM_kept iM_undos iM_images rM_fresher iM_fresherSize iM_scale iM_night rM_heardRow rM_cutRow iM_breaths iM_cutMany iM_allBreaths rM_trial rM_words iM_fewestBreaths iM_orderMany iM_orderSum iM_leastOrder rM_often iM_setMany iM_someOf iM_allOf iM_allWeight iM_enoughWeight iM_worthSum iM_firstRest iM_leastDrawn), (arI rM_tape kM_tape 900 fM_tape), (arI rM_letters kM_letters 8 f_6744), (arI rM_fresh kM_fresh 287 fM_fresh), (arI rM_read kM_read 90 fM_read)]) rfl
                have hFc := va_freeM hD hS hA _ hMs
                refine va_callv (va_runV (As := []) (rest := []) ⟨hx, hb, hml, hown, hts⟩ (tX7_throneLine l dC dI _ oM iM_thrown rM_tape fM_tape kM_tape iM_taped iM_size x_6736 x_6737 x_6738 x_6739 x_6740 x_6741 x_6742 iM_trouble rM_letters f_6744 kM_letters x_6743 iM_hasCourt rM_r rM_fresh fM_fresh kM_fresh rM_told rM_read fM_read kM_read rM_st rM_undone rM_kept iM_undos iM_images rM_fresher iM_fresherSize iM_scale iM_night rM_heardRow rM_cutRow iM_breaths iM_cutMany iM_allBreaths rM_trial rM_words iM_fewestBreaths iM_orderMany iM_orderSum iM_leastOrder rM_often iM_setMany iM_someOf iM_allOf iM_allWeight iM_enoughWeight iM_worthSum iM_firstRest iM_leastDrawn b_iM_taped b_iM_size b_x_6737 b_x_6740 b_x_6743 b_iM_hasCourt b_iM_undos b_iM_images b_iM_scale b_iM_breaths b_iM_cutMany (fun h9 => h_6794) r_P) (cwV 0 hts (wd_V wd_490 wd_491 wd_492 wd_5 (wd_c wd_493)) rfl rfl rfl dv_yX7_throneLine_0 ⟨Nat.le_of_ble_eq_true rfl, Nat.le_of_ble_eq_true rfl⟩) ⟨Pw.fb, recvX7 hK hP (q0 := 0) rfl, fun U hU hW => Pw.to (hP.ms _ hMs) (hD.ms _ hMs) (hK.ms [true, true, true, true, false] rfl) hE hS hFc hU hW⟩ rfl rfl hl.1 rfl (lv_room (Nat.le_of_ble_eq_true rfl)) dX7_readLine_171 ⟨Nat.le_of_ble_eq_true rfl, Nat.le_of_ble_eq_true rfl⟩) hS (fun q _ h => hFc q h) hFc (fun u t H locs ht hvm hw hB hz1 hk1 hS => ?_)
                refine ex_10_9 hB (fun x_6795 x_6796 x_6797 x_6798 x_6799 x_6800 x_6801 x_6802 f_6803 f_6804 b_x_6796 b_x_6799 b_x_6802 e_x_6795_0 e_x_6795_1 e_x_6795_2 e_x_6795_3 e_x_6795_4 e_x_6795_5 hB => ?_)
                obtain ⟨hP, hD⟩ := Bw.goN (ws' := [(oc7 oM iM_thrown rM_tape iM_taped iM_size x_6795 x_6796 x_6797 x_6798 x_6799 x_6800 x_6801 iM_trouble rM_letters x_6802 iM_hasCourt rM_r rM_fresh rM_told rM_read rM_st rM_undone rM_kept iM_undos iM_images rM_fresher iM_fresherSize iM_scale iM_night rM_heardRow rM_cutRow iM_breaths iM_cutMany iM_allBreaths rM_trial rM_words iM_fewestBreaths iM_orderMany iM_orderSum iM_leastOrder rM_often iM_setMany iM_someOf iM_allOf iM_allWeight iM_enoughWeight iM_worthSum iM_firstRest iM_leastDrawn), (arI rM_tape kM_tape 900 fM_tape), (arI rM_letters kM_letters 8 f_6803), (arI rM_fresh kM_fresh 287 f_6804), (arI rM_read kM_read 90 fM_read), (arI rM_fresher kM_fresher 8 fM_fresher)]) hB rfl ht hP hD _ hMs hk1 hFc rfl
                clear hz1 hk1 hvm ht hB hMs
                have pl_f_6804 := e_x_6795_4.lins
                have hG := hG.trans (un10_eq e_x_6795_5)
                clear e_x_6736_4
                refine lv_goto (tgt := 233) hx hb dX7_readLine_174 (by decide) ?_
                exact wq_v hx hb hr 0 trivial (fun t ht hW => ⟨x_6795, x_6796, x_6797, x_6798, x_6799, x_6800, x_6801, x_6802, iM_fresherSize, f_6803, f_6804, fM_read, fM_fresher, b_x_6796, b_x_6799, b_x_6802, (om_dcd74bf2 e_x_6609_0 e_x_6623_0 e_x_6637_0 e_x_6736_0 e_x_6795_0), e_x_6795_1, (om_dcd74bf2 e_x_6609_2 e_x_6623_2 e_x_6637_2 e_x_6736_2 e_x_6795_2), (fun h9 => (om_cad042f1 e_x_6609_0 e_x_6623_0 e_x_6637_0 e_x_6736_0 (e_x_6795_3 ⟨h9.1, h9.2⟩))), e_x_6795_4, hG, Bw.to hP hD hK ht hW⟩) hS dX7_readLine_233 hlocks
            · skip
              have hG := hG.trans (if_neg c_6746)
              have gc_6746 := ti_ne c_6746 rfl kc_0
              replace gc_6746 : (-1) * x_6745.toInt + 1 ≤ 0 := om_e3003f79 gc_6746 dx_6745.1
              have h_6805 := e_x_6736_3 (by omega)
              clear e_x_6736_3
              refine lv_aload_n hx hb dX7_readLine_153 rfl (lv_at hl 0 rfl) ?_
              refine lv_iconst (v := 3) hx hb dX7_readLine_154 (by decide) ?_
              have hFc := va_freeI hD hS hA
              refine va_callv (va_runV (As := [.int 3]) (rest := []) ⟨hx, hb, hml, hown, hts⟩ (tX7_innerLine l dC dI _ oM iM_thrown rM_tape fM_tape kM_tape iM_taped iM_size x_6736 x_6737 x_6738 x_6739 x_6740 x_6741 x_6742 iM_trouble rM_letters f_6744 kM_letters x_6743 iM_hasCourt rM_r rM_fresh fM_fresh kM_fresh rM_told rM_read fM_read kM_read rM_st rM_undone rM_kept iM_undos iM_images rM_fresher fM_fresher kM_fresher iM_fresherSize iM_scale iM_night rM_heardRow rM_cutRow iM_breaths iM_cutMany iM_allBreaths rM_trial rM_words iM_fewestBreaths iM_orderMany iM_orderSum iM_leastOrder rM_often iM_setMany iM_someOf iM_allOf iM_allWeight iM_enoughWeight iM_worthSum iM_firstRest iM_leastDrawn 3 b_iM_taped b_iM_size b_x_6737 b_x_6740 b_x_6743 b_iM_hasCourt b_iM_undos b_iM_images b_iM_scale b_iM_breaths b_iM_cutMany e_x_6736_1 r_P ⟨(om_bf54f653 kc_3), (om_6eb7c803 kc_3)⟩ (fun h9 => (om_0511bc05 cx_6649 gc_6650)) (by intro h9; have q0 := kc_0; have q1 := kc_1; have q2 := kc_2; have q3 := kc_3; omega)) (cwV 1 hts (wd_V wd_482 wd_483 wd_484 wd_5 (wd_c wd_485)) rfl rfl rfl dv_yX7_innerLine_1 ⟨Nat.le_of_ble_eq_true rfl, Nat.le_of_ble_eq_true rfl⟩) ⟨Pw.fb, recvX7 hK hP (q0 := 0) rfl, fun U hU hW => Pw.to hP hD hK hE hS hFc hU hW⟩ rfl rfl hl.1 rfl (lv_room (Nat.le_of_ble_eq_true rfl)) dX7_readLine_155 ⟨Nat.le_of_ble_eq_true rfl, Nat.le_of_ble_eq_true rfl⟩) hS (fun q _ h => hFc q h) hFc (fun u t H locs ht hvm hw hB hz1 hk1 hS => ?_)
              refine ex_13_9 hB (fun x_6806 x_6807 x_6808 x_6809 x_6810 x_6811 x_6812 x_6813 x_6814 f_6815 f_6816 f_6817 f_6818 b_x_6807 b_x_6810 b_x_6813 e_x_6806_0 e_x_6806_1 e_x_6806_2 e_x_6806_3 e_x_6806_4 e_x_6806_5 hB => ?_)
              obtain ⟨hP, hD⟩ := Bw.goA (ws' := [(oc7 oM iM_thrown rM_tape iM_taped iM_size x_6806 x_6807 x_6808 x_6809 x_6810 x_6811 x_6812 iM_trouble rM_letters x_6813 iM_hasCourt rM_r rM_fresh rM_told rM_read rM_st rM_undone rM_kept iM_undos iM_images rM_fresher x_6814 iM_scale iM_night rM_heardRow rM_cutRow iM_breaths iM_cutMany iM_allBreaths rM_trial rM_words iM_fewestBreaths iM_orderMany iM_orderSum iM_leastOrder rM_often iM_setMany iM_someOf iM_allOf iM_allWeight iM_enoughWeight iM_worthSum iM_firstRest iM_leastDrawn), (arI rM_tape kM_tape 900 fM_tape), (arI rM_letters kM_letters 8 f_6815), (arI rM_fresh kM_fresh 287 f_6816), (arI rM_read kM_read 90 f_6817), (arI rM_fresher kM_fresher 8 f_6818)]) hB rfl ht hFc rfl
              clear hz1 hk1 hvm ht hB
              have pl_f_6816 := e_x_6806_4.lins
              have hG := hG.trans (un13_eq e_x_6806_5)
              clear e_x_6736_1
              clear e_x_6736_4
              refine lv_goto (tgt := 233) hx hb dX7_readLine_158 (by decide) ?_
              exact wq_v hx hb hr 0 trivial (fun t ht hW => ⟨x_6806, x_6807, x_6808, x_6809, x_6810, x_6811, x_6812, x_6813, x_6814, f_6815, f_6816, f_6817, f_6818, b_x_6807, b_x_6810, b_x_6813, (om_dcd74bf2 e_x_6609_0 e_x_6623_0 e_x_6637_0 e_x_6736_0 e_x_6806_0), e_x_6806_1, (om_dcd74bf2 e_x_6609_2 e_x_6623_2 e_x_6637_2 e_x_6736_2 e_x_6806_2), (fun h9 => (om_cad042f1 e_x_6609_0 e_x_6623_0 e_x_6637_0 e_x_6736_0 (e_x_6806_3 ⟨h9.1, h9.2⟩))), e_x_6806_4, hG, Bw.to hP hD hK ht hW⟩) hS dX7_readLine_233 hlocks
        · skip
          have hG := hG.trans (if_neg c_6647)
          have gc_6647 := ti_ne c_6647 rfl kc_0
          replace gc_6647 : (-1) * x_6646.toInt + 1 ≤ 0 := om_e3003f79 gc_6647 dx_6646.1
          have h_6819 := e_x_6637_3 (by omega)
          clear e_x_6637_3
          refine lv_aload_n hx hb dX7_readLine_108 rfl (lv_at hl 0 rfl) ?_
          refine lv_iconst (v := 2) hx hb dX7_readLine_109 (by decide) ?_
          have hFc := va_freeI hD hS hA
          refine va_callv (va_runV (As := [.int 2]) (rest := []) ⟨hx, hb, hml, hown, hts⟩ (tX7_innerLine l dC dI _ oM iM_thrown rM_tape fM_tape kM_tape iM_taped iM_size x_6637 x_6638 x_6639 x_6640 x_6641 x_6642 x_6643 iM_trouble rM_letters f_6645 kM_letters x_6644 iM_hasCourt rM_r rM_fresh fM_fresh kM_fresh rM_told rM_read fM_read kM_read rM_st rM_undone rM_kept iM_undos iM_images rM_fresher fM_fresher kM_fresher iM_fresherSize iM_scale iM_night rM_heardRow rM_cutRow iM_breaths iM_cutMany iM_allBreaths rM_trial rM_words iM_fewestBreaths iM_orderMany iM_orderSum iM_leastOrder rM_often iM_setMany iM_someOf iM_allOf iM_allWeight iM_enoughWeight iM_worthSum iM_firstRest iM_leastDrawn 2 b_iM_taped b_iM_size b_x_6638 b_x_6641 b_x_6644 b_iM_hasCourt b_iM_undos b_iM_images b_iM_scale b_iM_breaths b_iM_cutMany e_x_6637_1 r_P ⟨(om_1d8fb110 kc_2), (om_b5116cbd kc_2)⟩ (by intro h9; have q0 := kc_0; have q1 := kc_1; have q2 := kc_2; have q3 := kc_3; omega) (fun h9 => False.elim (om_bb111043 h9.2 kc_2))) (cwV 1 hts (wd_V wd_482 wd_483 wd_484 wd_5 (wd_c wd_485)) rfl rfl rfl dv_yX7_innerLine_1 ⟨Nat.le_of_ble_eq_true rfl, Nat.le_of_ble_eq_true rfl⟩) ⟨Pw.fb, recvX7 hK hP (q0 := 0) rfl, fun U hU hW => Pw.to hP hD hK hE hS hFc hU hW⟩ rfl rfl hl.1 rfl (lv_room (Nat.le_of_ble_eq_true rfl)) dX7_readLine_110 ⟨Nat.le_of_ble_eq_true rfl, Nat.le_of_ble_eq_true rfl⟩) hS (fun q _ h => hFc q h) hFc (fun u t H locs ht hvm hw hB hz1 hk1 hS => ?_)
          refine ex_13_9 hB (fun x_6820 x_6821 x_6822 x_6823 x_6824 x_6825 x_6826 x_6827 x_6828 f_6829 f_6830 f_6831 f_6832 b_x_6821 b_x_6824 b_x_6827 e_x_6820_0 e_x_6820_1 e_x_6820_2 e_x_6820_3 e_x_6820_4 e_x_6820_5 hB => ?_)
          obtain ⟨hP, hD⟩ := Bw.goA (ws' := [(oc7 oM iM_thrown rM_tape iM_taped iM_size x_6820 x_6821 x_6822 x_6823 x_6824 x_6825 x_6826 iM_trouble rM_letters x_6827 iM_hasCourt rM_r rM_fresh rM_told rM_read rM_st rM_undone rM_kept iM_undos iM_images rM_fresher x_6828 iM_scale iM_night rM_heardRow rM_cutRow iM_breaths iM_cutMany iM_allBreaths rM_trial rM_words iM_fewestBreaths iM_orderMany iM_orderSum iM_leastOrder rM_often iM_setMany iM_someOf iM_allOf iM_allWeight iM_enoughWeight iM_worthSum iM_firstRest iM_leastDrawn), (arI rM_tape kM_tape 900 fM_tape), (arI rM_letters kM_letters 8 f_6829), (arI rM_fresh kM_fresh 287 f_6830), (arI rM_read kM_read 90 f_6831), (arI rM_fresher kM_fresher 8 f_6832)]) hB rfl ht hFc rfl
          clear hz1 hk1 hvm ht hB
          have pl_f_6830 := e_x_6820_4.lins
          have hG := hG.trans (un13_eq e_x_6820_5)
          clear e_x_6637_1
          clear e_x_6637_4
          refine lv_goto (tgt := 233) hx hb dX7_readLine_113 (by decide) ?_
          exact wq_v hx hb hr 0 trivial (fun t ht hW => ⟨x_6820, x_6821, x_6822, x_6823, x_6824, x_6825, x_6826, x_6827, x_6828, f_6829, f_6830, f_6831, f_6832, b_x_6821, b_x_6824, b_x_6827, (om_dc41b317 e_x_6609_0 e_x_6623_0 e_x_6637_0 e_x_6820_0), e_x_6820_1, (om_dc41b317 e_x_6609_2 e_x_6623_2 e_x_6637_2 e_x_6820_2), (fun h9 => (om_67b34c44 e_x_6609_0 e_x_6623_0 e_x_6637_0 (e_x_6820_3 ⟨h9.1, h9.2⟩))), e_x_6820_4, hG, Bw.to hP hD hK ht hW⟩) hS dX7_readLine_233 hlocks
      · skip
        have hG := hG.trans (if_neg c_6633)
        have gc_6633 := ti_ne c_6633 rfl kc_0
        replace gc_6633 : (-1) * x_6632.toInt + 1 ≤ 0 := om_e3003f79 gc_6633 dx_6632.1
        have h_6833 := e_x_6623_3 (by omega)
        clear e_x_6623_3
        refine lv_aload_n hx hb dX7_readLine_74 rfl (lv_at hl 0 rfl) ?_
        refine lv_iconst (v := 1) hx hb dX7_readLine_75 (by decide) ?_
        have hFc := va_freeI hD hS hA
        refine va_callv (va_runV (As := [.int 1]) (rest := []) ⟨hx, hb, hml, hown, hts⟩ (tX7_innerLine l dC dI _ oM iM_thrown rM_tape fM_tape kM_tape iM_taped iM_size x_6623 x_6624 x_6625 x_6626 x_6627 x_6628 x_6629 iM_trouble rM_letters f_6631 kM_letters x_6630 iM_hasCourt rM_r rM_fresh fM_fresh kM_fresh rM_told rM_read fM_read kM_read rM_st rM_undone rM_kept iM_undos iM_images rM_fresher fM_fresher kM_fresher iM_fresherSize iM_scale iM_night rM_heardRow rM_cutRow iM_breaths iM_cutMany iM_allBreaths rM_trial rM_words iM_fewestBreaths iM_orderMany iM_orderSum iM_leastOrder rM_often iM_setMany iM_someOf iM_allOf iM_allWeight iM_enoughWeight iM_worthSum iM_firstRest iM_leastDrawn 1 b_iM_taped b_iM_size b_x_6624 b_x_6627 b_x_6630 b_iM_hasCourt b_iM_undos b_iM_images b_iM_scale b_iM_breaths b_iM_cutMany e_x_6623_1 r_P ⟨(om_c083232f kc_1), (om_a83fc49f kc_1)⟩ (by intro h9; have q0 := kc_0; have q1 := kc_1; have q2 := kc_2; have q3 := kc_3; omega) (fun h9 => False.elim (om_9636131c h9.2 kc_1))) (cwV 1 hts (wd_V wd_482 wd_483 wd_484 wd_5 (wd_c wd_485)) rfl rfl rfl dv_yX7_innerLine_1 ⟨Nat.le_of_ble_eq_true rfl, Nat.le_of_ble_eq_true rfl⟩) ⟨Pw.fb, recvX7 hK hP (q0 := 0) rfl, fun U hU hW => Pw.to hP hD hK hE hS hFc hU hW⟩ rfl rfl hl.1 rfl (lv_room (Nat.le_of_ble_eq_true rfl)) dX7_readLine_76 ⟨Nat.le_of_ble_eq_true rfl, Nat.le_of_ble_eq_true rfl⟩) hS (fun q _ h => hFc q h) hFc (fun u t H locs ht hvm hw hB hz1 hk1 hS => ?_)
        refine ex_13_9 hB (fun x_6834 x_6835 x_6836 x_6837 x_6838 x_6839 x_6840 x_6841 x_6842 f_6843 f_6844 f_6845 f_6846 b_x_6835 b_x_6838 b_x_6841 e_x_6834_0 e_x_6834_1 e_x_6834_2 e_x_6834_3 e_x_6834_4 e_x_6834_5 hB => ?_)
        obtain ⟨hP, hD⟩ := Bw.goA (ws' := [(oc7 oM iM_thrown rM_tape iM_taped iM_size x_6834 x_6835 x_6836 x_6837 x_6838 x_6839 x_6840 iM_trouble rM_letters x_6841 iM_hasCourt rM_r rM_fresh rM_told rM_read rM_st rM_undone rM_kept iM_undos iM_images rM_fresher x_6842 iM_scale iM_night rM_heardRow rM_cutRow iM_breaths iM_cutMany iM_allBreaths rM_trial rM_words iM_fewestBreaths iM_orderMany iM_orderSum iM_leastOrder rM_often iM_setMany iM_someOf iM_allOf iM_allWeight iM_enoughWeight iM_worthSum iM_firstRest iM_leastDrawn), (arI rM_tape kM_tape 900 fM_tape), (arI rM_letters kM_letters 8 f_6843), (arI rM_fresh kM_fresh 287 f_6844), (arI rM_read kM_read 90 f_6845), (arI rM_fresher kM_fresher 8 f_6846)]) hB rfl ht hFc rfl
        clear hz1 hk1 hvm ht hB
        have pl_f_6844 := e_x_6834_4.lins
        have hG := hG.trans (un13_eq e_x_6834_5)
        clear e_x_6623_1
        clear e_x_6623_4
        refine lv_goto (tgt := 233) hx hb dX7_readLine_79 (by decide) ?_
        exact wq_v hx hb hr 0 trivial (fun t ht hW => ⟨x_6834, x_6835, x_6836, x_6837, x_6838, x_6839, x_6840, x_6841, x_6842, f_6843, f_6844, f_6845, f_6846, b_x_6835, b_x_6838, b_x_6841, (om_622f2a87 e_x_6609_0 e_x_6623_0 e_x_6834_0), e_x_6834_1, (om_622f2a87 e_x_6609_2 e_x_6623_2 e_x_6834_2), (fun h9 => (om_2d38588c e_x_6609_0 e_x_6623_0 (e_x_6834_3 ⟨h9.1, h9.2⟩))), e_x_6834_4, hG, Bw.to hP hD hK ht hW⟩) hS dX7_readLine_233 hlocks
    · skip
      have hG := hG.trans (if_neg c_6619)
      have gc_6619 := ti_ne c_6619 rfl kc_0
      replace gc_6619 : (-1) * x_6618.toInt + 1 ≤ 0 := om_e3003f79 gc_6619 dx_6618.1
      have h_6847 := e_x_6609_3 (by omega)
      clear e_x_6609_3
      refine lv_aload_n hx hb dX7_readLine_41 rfl (lv_at hl 0 rfl) ?_
      have hFc := va_freeI hD hS hA
      refine va_callv (va_runV (As := []) (rest := []) ⟨hx, hb, hml, hown, hts⟩ (tX7_wordLine l dC dI _ oM iM_thrown rM_tape fM_tape kM_tape iM_taped iM_size x_6609 x_6610 x_6611 x_6612 x_6613 x_6614 x_6615 iM_trouble rM_letters f_6617 kM_letters x_6616 iM_hasCourt rM_r rM_fresh fM_fresh kM_fresh rM_told rM_read fM_read kM_read rM_st rM_undone rM_kept iM_undos iM_images rM_fresher fM_fresher kM_fresher iM_fresherSize iM_scale iM_night rM_heardRow rM_cutRow iM_breaths iM_cutMany iM_allBreaths rM_trial rM_words iM_fewestBreaths iM_orderMany iM_orderSum iM_leastOrder rM_often iM_setMany iM_someOf iM_allOf iM_allWeight iM_enoughWeight iM_worthSum iM_firstRest iM_leastDrawn b_iM_taped b_iM_size b_x_6610 b_x_6613 b_x_6616 b_iM_hasCourt b_iM_undos b_iM_images b_iM_scale b_iM_breaths b_iM_cutMany e_x_6609_1 r_P (by intro h9; have q0 := kc_0; have q1 := kc_1; have q2 := kc_2; have q3 := kc_3; omega)) (cwV 0 hts (wd_V wd_458 wd_459 wd_460 wd_5 (wd_c wd_461)) rfl rfl rfl dv_yX7_wordLine_0 ⟨Nat.le_of_ble_eq_true rfl, Nat.le_of_ble_eq_true rfl⟩) ⟨Pw.fb, recvX7 hK hP (q0 := 0) rfl, fun U hU hW => Pw.to hP hD hK hE hS hFc hU hW⟩ rfl rfl hl.1 rfl (lv_room (Nat.le_of_ble_eq_true rfl)) dX7_readLine_42 ⟨Nat.le_of_ble_eq_true rfl, Nat.le_of_ble_eq_true rfl⟩) hS (fun q _ h => hFc q h) hFc (fun u t H locs ht hvm hw hB hz1 hk1 hS => ?_)
      refine ex_13_9 hB (fun x_6848 x_6849 x_6850 x_6851 x_6852 x_6853 x_6854 x_6855 x_6856 f_6857 f_6858 f_6859 f_6860 b_x_6849 b_x_6852 b_x_6855 e_x_6848_0 e_x_6848_1 e_x_6848_2 e_x_6848_3 e_x_6848_4 e_x_6848_5 hB => ?_)
      obtain ⟨hP, hD⟩ := Bw.goA (ws' := [(oc7 oM iM_thrown rM_tape iM_taped iM_size x_6848 x_6849 x_6850 x_6851 x_6852 x_6853 x_6854 iM_trouble rM_letters x_6855 iM_hasCourt rM_r rM_fresh rM_told rM_read rM_st rM_undone rM_kept iM_undos iM_images rM_fresher x_6856 iM_scale iM_night rM_heardRow rM_cutRow iM_breaths iM_cutMany iM_allBreaths rM_trial rM_words iM_fewestBreaths iM_orderMany iM_orderSum iM_leastOrder rM_often iM_setMany iM_someOf iM_allOf iM_allWeight iM_enoughWeight iM_worthSum iM_firstRest iM_leastDrawn), (arI rM_tape kM_tape 900 fM_tape), (arI rM_letters kM_letters 8 f_6857), (arI rM_fresh kM_fresh 287 f_6858), (arI rM_read kM_read 90 f_6859), (arI rM_fresher kM_fresher 8 f_6860)]) hB rfl ht hFc rfl
      clear hz1 hk1 hvm ht hB
      have pl_f_6858 := e_x_6848_4.lins
      have hG := hG.trans (un13_eq e_x_6848_5)
      clear e_x_6609_1
      clear e_x_6609_4
      refine lv_goto (tgt := 233) hx hb dX7_readLine_45 (by decide) ?_
      exact wq_v hx hb hr 0 trivial (fun t ht hW => ⟨x_6848, x_6849, x_6850, x_6851, x_6852, x_6853, x_6854, x_6855, x_6856, f_6857, f_6858, f_6859, f_6860, b_x_6849, b_x_6852, b_x_6855, (om_9348f5ae e_x_6609_0 e_x_6848_0), e_x_6848_1, (om_9348f5ae e_x_6609_2 e_x_6848_2), (fun h9 => (om_7ed234da e_x_6609_0 (e_x_6848_3 ⟨h9.1, h9.2⟩))), e_x_6848_4, hG, Bw.to hP hD hK ht hW⟩) hS dX7_readLine_233 hlocks
  · skip
    have hG := hG.trans (if_neg c_6605)
    have gc_6605 := ti_ne c_6605 rfl kc_0
    replace gc_6605 : (-1) * x_6604.toInt + 1 ≤ 0 := om_e3003f79 gc_6605 dx_6604.1
    have h_6861 : iM_token.toInt = 2 := lx_6604 (om_7907a7c1 dx_6604.2 gc_6605)
    clear lx_6604
    have h_6862 : iM_nameSize.toInt ≤ 8 := r_T h_6861
    clear r_T
    refine lv_aload_n hx hb dX7_readLine_9 rfl (lv_at hl 0 rfl) ?_
    have hMs := ml_of hD [true, true, true, true, true, false] (wc := [(oc7 oM iM_thrown rM_tape iM_taped iM_size iM_at iM_end iM_token iM_whole iM_nameSize iM_fault iM_place iM_trouble rM_letters iM_failed iM_hasCourt rM_r rM_fresh rM_told rM_read rM_st rM_undone rM_kept iM_undos iM_images rM_fresher iM_fresherSize iM_scale iM_night rM_heardRow rM_cutRow iM_breaths iM_cutMany iM_allBreaths rM_trial rM_words iM_fewestBreaths iM_orderMany iM_orderSum iM_leastOrder rM_often iM_setMany iM_someOf iM_allOf iM_allWeight iM_enoughWeight iM_worthSum iM_firstRest iM_leastDrawn), (arI rM_tape kM_tape 900 fM_tape), (arI rM_letters kM_letters 8 fM_letters), (arI rM_fresh kM_fresh 287 fM_fresh), (arI rM_read kM_read 90 fM_read)]) rfl
    have hFc := va_freeM hD hS hA _ hMs
    refine va_callv (va_runV (As := []) (rest := []) ⟨hx, hb, hml, hown, hts⟩ (tX7_courtLine l dC dI _ oM iM_thrown rM_tape fM_tape kM_tape iM_taped iM_size iM_at iM_end iM_token iM_whole iM_nameSize iM_fault iM_place iM_trouble rM_letters fM_letters kM_letters iM_failed iM_hasCourt rM_r rM_fresh fM_fresh kM_fresh rM_told rM_read fM_read kM_read rM_st rM_undone rM_kept iM_undos iM_images rM_fresher iM_fresherSize iM_scale iM_night rM_heardRow rM_cutRow iM_breaths iM_cutMany iM_allBreaths rM_trial rM_words iM_fewestBreaths iM_orderMany iM_orderSum iM_leastOrder rM_often iM_setMany iM_someOf iM_allOf iM_allWeight iM_enoughWeight iM_worthSum iM_firstRest iM_leastDrawn b_iM_taped b_iM_size b_iM_end b_iM_nameSize b_iM_failed b_iM_hasCourt b_iM_undos b_iM_images b_iM_scale b_iM_breaths b_iM_cutMany (fun h9 => h_6862) r_P) (cwV 0 hts (wd_V wd_426 wd_427 wd_428 wd_5 (wd_c wd_429)) rfl rfl rfl dv_yX7_courtLine_0 ⟨Nat.le_of_ble_eq_true rfl, Nat.le_of_ble_eq_true rfl⟩) ⟨Pw.fb, recvX7 hK hP (q0 := 0) rfl, fun U hU hW => Pw.to (hP.ms _ hMs) (hD.ms _ hMs) (hK.ms [true, true, true, true, false] rfl) hE hS hFc hU hW⟩ rfl rfl hl.1 rfl (lv_room (Nat.le_of_ble_eq_true rfl)) dX7_readLine_10 ⟨Nat.le_of_ble_eq_true rfl, Nat.le_of_ble_eq_true rfl⟩) hS (fun q _ h => hFc q h) hFc (fun u t H locs ht hvm hw hB hz1 hk1 hS => ?_)
    refine ex_10_9 hB (fun x_6863 x_6864 x_6865 x_6866 x_6867 x_6868 x_6869 x_6870 f_6871 f_6872 b_x_6864 b_x_6867 b_x_6870 e_x_6863_0 e_x_6863_1 e_x_6863_2 e_x_6863_3 e_x_6863_4 e_x_6863_5 hB => ?_)
    obtain ⟨hP, hD⟩ := Bw.goN (ws' := [(oc7 oM iM_thrown rM_tape iM_taped iM_size x_6863 x_6864 x_6865 x_6866 x_6867 x_6868 x_6869 iM_trouble rM_letters x_6870 iM_hasCourt rM_r rM_fresh rM_told rM_read rM_st rM_undone rM_kept iM_undos iM_images rM_fresher iM_fresherSize iM_scale iM_night rM_heardRow rM_cutRow iM_breaths iM_cutMany iM_allBreaths rM_trial rM_words iM_fewestBreaths iM_orderMany iM_orderSum iM_leastOrder rM_often iM_setMany iM_someOf iM_allOf iM_allWeight iM_enoughWeight iM_worthSum iM_firstRest iM_leastDrawn), (arI rM_tape kM_tape 900 fM_tape), (arI rM_letters kM_letters 8 f_6871), (arI rM_fresh kM_fresh 287 f_6872), (arI rM_read kM_read 90 fM_read), (arI rM_fresher kM_fresher 8 fM_fresher)]) hB rfl ht hP hD _ hMs hk1 hFc rfl
    clear hz1 hk1 hvm ht hB hMs
    have pl_f_6872 := e_x_6863_4.lins
    have hG := hG.trans (un10_eq e_x_6863_5)
    refine lv_goto (tgt := 233) hx hb dX7_readLine_13 (by decide) ?_
    exact wq_v hx hb hr 0 trivial (fun t ht hW => ⟨x_6863, x_6864, x_6865, x_6866, x_6867, x_6868, x_6869, x_6870, iM_fresherSize, f_6871, f_6872, fM_read, fM_fresher, b_x_6864, b_x_6867, b_x_6870, e_x_6863_0, e_x_6863_1, e_x_6863_2, e_x_6863_3, e_x_6863_4, hG, Bw.to hP hD hK ht hW⟩) hS dX7_readLine_233 hlocks
