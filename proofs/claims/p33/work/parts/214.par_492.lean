set_option maxHeartbeats 4000000 in
set_option maxRecDepth 100000 in
theorem tX7_readLine (l : Launch) (dC : Nat → ClassId) (dI : Nat → Nat → Nat) (sz : Nat) (oM : Nat) (iM_thrown : Int32) (rM_tape : Nat) (fM_tape : Nat → Int32) (kM_tape : ClassId) (iM_taped : Int32) (iM_size : Int32) (iM_at : Int32) (iM_end : Int32) (iM_token : Int32) (iM_whole : Int32) (iM_nameSize : Int32) (iM_fault : Int32) (iM_place : Int32) (iM_trouble : Int32) (rM_letters : Nat) (fM_letters : Nat → Int32) (kM_letters : ClassId) (iM_failed : Int32) (iM_hasCourt : Int32) (rM_r : Nat) (rM_fresh : Nat) (fM_fresh : Nat → Int32) (kM_fresh : ClassId) (rM_told : Nat) (rM_read : Nat) (fM_read : Nat → Int32) (kM_read : ClassId) (rM_st : Nat) (rM_undone : Nat) (rM_kept : Nat) (iM_undos : Int32) (iM_images : Int32) (rM_fresher : Nat) (fM_fresher : Nat → Int32) (kM_fresher : ClassId) (iM_fresherSize : Int32) (iM_scale : Int32) (iM_night : Int32) (rM_heardRow : Nat) (rM_cutRow : Nat) (iM_breaths : Int32) (iM_cutMany : Int32) (iM_allBreaths : Int32) (rM_trial : Nat) (rM_words : Nat) (iM_fewestBreaths : Int32) (iM_orderMany : Int32) (iM_orderSum : Int32) (iM_leastOrder : Int32) (rM_often : Nat) (iM_setMany : Int32) (iM_someOf : Int32) (iM_allOf : Int32) (iM_allWeight : Int64) (iM_enoughWeight : Int64) (iM_worthSum : Int64) (iM_firstRest : Int32) (iM_leastDrawn : Int32) (b_iM_taped : 0 ≤ iM_taped.toInt ∧ iM_taped.toInt ≤ 900) (b_iM_size : 0 ≤ iM_size.toInt ∧ iM_size.toInt ≤ 900) (b_iM_end : 0 ≤ iM_end.toInt ∧ iM_end.toInt ≤ 900) (b_iM_nameSize : 0 ≤ iM_nameSize.toInt ∧ iM_nameSize.toInt ≤ 900) (b_iM_failed : 0 ≤ iM_failed.toInt ∧ iM_failed.toInt ≤ 1) (b_iM_hasCourt : 0 ≤ iM_hasCourt.toInt ∧ iM_hasCourt.toInt ≤ 1) (b_iM_undos : 0 ≤ iM_undos.toInt ∧ iM_undos.toInt ≤ 16) (b_iM_images : 0 ≤ iM_images.toInt ∧ iM_images.toInt ≤ 3) (b_iM_scale : 1 ≤ iM_scale.toInt ∧ iM_scale.toInt ≤ 1296) (b_iM_breaths : 0 ≤ iM_breaths.toInt ∧ iM_breaths.toInt ≤ 399) (b_iM_cutMany : 0 ≤ iM_cutMany.toInt ∧ iM_cutMany.toInt ≤ 399) (r_T : ImpP (iM_token.toInt = 2) (iM_nameSize.toInt ≤ 8)) (r_P : POk fM_fresh fM_read)  : Met l yX7_readLine (Cond.code yX7_readLine cX7_readLine 1 none :: wG) ({ frames := 9, cells := 0, slots := 0, locals := 220 }) (va_Pc [.ref oM] (Pw dC dI sz [(oc7 oM iM_thrown rM_tape iM_taped iM_size iM_at iM_end iM_token iM_whole iM_nameSize iM_fault iM_place iM_trouble rM_letters iM_failed iM_hasCourt rM_r rM_fresh rM_told rM_read rM_st rM_undone rM_kept iM_undos iM_images rM_fresher iM_fresherSize iM_scale iM_night rM_heardRow rM_cutRow iM_breaths iM_cutMany iM_allBreaths rM_trial rM_words iM_fewestBreaths iM_orderMany iM_orderSum iM_leastOrder rM_often iM_setMany iM_someOf iM_allOf iM_allWeight iM_enoughWeight iM_worthSum iM_firstRest iM_leastDrawn), (arI rM_tape kM_tape 900 fM_tape), (arI rM_letters kM_letters 8 fM_letters), (arI rM_fresh kM_fresh 287 fM_fresh), (arI rM_read kM_read 90 fM_read), (arI rM_fresher kM_fresher 8 fM_fresher)] [(kM_tape, .int), (kM_letters, .int), (kM_fresh, .int), (kM_read, .int), (kM_fresher, .int)])) (va_Qv (fun (_ : Nat) => True) (fun (_ : Nat) (t : State) => ∃ (niM_at : Int32) (niM_end : Int32) (niM_token : Int32) (niM_whole : Int32) (niM_nameSize : Int32) (niM_fault : Int32) (niM_place : Int32) (niM_failed : Int32) (niM_fresherSize : Int32) (nfM_letters : Nat → Int32) (nfM_fresh : Nat → Int32) (nfM_read : Nat → Int32) (nfM_fresher : Nat → Int32), (0 ≤ niM_end.toInt ∧ niM_end.toInt ≤ 900) ∧ (0 ≤ niM_nameSize.toInt ∧ niM_nameSize.toInt ≤ 900) ∧ (0 ≤ niM_failed.toInt ∧ niM_failed.toInt ≤ 1) ∧ (iM_end.toInt ≤ niM_end.toInt) ∧ (ImpP (niM_token.toInt = 2) (niM_nameSize.toInt ≤ 8)) ∧ (iM_failed.toInt ≤ niM_failed.toInt) ∧ (ImpP (niM_failed.toInt ≤ 0 ∧ niM_token.toInt = 59 ) (iM_end.toInt + 1 ≤ niM_end.toInt)) ∧ (POk nfM_fresh nfM_read) ∧ (PX7_readLine fM_tape iM_size iM_at iM_end iM_token iM_whole iM_nameSize iM_fault iM_place fM_letters iM_failed fM_fresh fM_read fM_fresher iM_fresherSize = (niM_at, niM_end, niM_token, niM_whole, niM_nameSize, niM_fault, niM_place, niM_failed, niM_fresherSize, nfM_letters, nfM_fresh, nfM_read, nfM_fresher)) ∧ Bw dC dI (va_A [(oc7 oM iM_thrown rM_tape iM_taped iM_size iM_at iM_end iM_token iM_whole iM_nameSize iM_fault iM_place iM_trouble rM_letters iM_failed iM_hasCourt rM_r rM_fresh rM_told rM_read rM_st rM_undone rM_kept iM_undos iM_images rM_fresher iM_fresherSize iM_scale iM_night rM_heardRow rM_cutRow iM_breaths iM_cutMany iM_allBreaths rM_trial rM_words iM_fewestBreaths iM_orderMany iM_orderSum iM_leastOrder rM_often iM_setMany iM_someOf iM_allOf iM_allWeight iM_enoughWeight iM_worthSum iM_firstRest iM_leastDrawn), (arI rM_tape kM_tape 900 fM_tape), (arI rM_letters kM_letters 8 fM_letters), (arI rM_fresh kM_fresh 287 fM_fresh), (arI rM_read kM_read 90 fM_read), (arI rM_fresher kM_fresher 8 fM_fresher)] sz) [(oc7 oM iM_thrown rM_tape iM_taped iM_size niM_at niM_end niM_token niM_whole niM_nameSize niM_fault niM_place iM_trouble rM_letters niM_failed iM_hasCourt rM_r rM_fresh rM_told rM_read rM_st rM_undone rM_kept iM_undos iM_images rM_fresher niM_fresherSize iM_scale iM_night rM_heardRow rM_cutRow iM_breaths iM_cutMany iM_allBreaths rM_trial rM_words iM_fewestBreaths iM_orderMany iM_orderSum iM_leastOrder rM_often iM_setMany iM_someOf iM_allOf iM_allWeight iM_enoughWeight iM_worthSum iM_firstRest iM_leastDrawn), (arI rM_tape kM_tape 900 fM_tape), (arI rM_letters kM_letters 8 nfM_letters), (arI rM_fresh kM_fresh 287 nfM_fresh), (arI rM_read kM_read 90 nfM_read), (arI rM_fresher kM_fresher 8 nfM_fresher)] [(kM_tape, .int), (kM_letters, .int), (kM_fresh, .int), (kM_read, .int), (kM_fresher, .int)] t) (va_A [(oc7 oM iM_thrown rM_tape iM_taped iM_size iM_at iM_end iM_token iM_whole iM_nameSize iM_fault iM_place iM_trouble rM_letters iM_failed iM_hasCourt rM_r rM_fresh rM_told rM_read rM_st rM_undone rM_kept iM_undos iM_images rM_fresher iM_fresherSize iM_scale iM_night rM_heardRow rM_cutRow iM_breaths iM_cutMany iM_allBreaths rM_trial rM_words iM_fewestBreaths iM_orderMany iM_orderSum iM_leastOrder rM_often iM_setMany iM_someOf iM_allOf iM_allWeight iM_enoughWeight iM_worthSum iM_firstRest iM_leastDrawn), (arI rM_tape kM_tape 900 fM_tape), (arI rM_letters kM_letters 8 fM_letters), (arI rM_fresh kM_fresh 287 fM_fresh), (arI rM_read kM_read 90 fM_read), (arI rM_fresher kM_fresher 8 fM_fresher)] sz)) 0 0 (va_A [(oc7 oM iM_thrown rM_tape iM_taped iM_size iM_at iM_end iM_token iM_whole iM_nameSize iM_fault iM_place iM_trouble rM_letters iM_failed iM_hasCourt rM_r rM_fresh rM_told rM_read rM_st rM_undone rM_kept iM_undos iM_images rM_fresher iM_fresherSize iM_scale iM_night rM_heardRow rM_cutRow iM_breaths iM_cutMany iM_allBreaths rM_trial rM_words iM_fewestBreaths iM_orderMany iM_orderSum iM_leastOrder rM_often iM_setMany iM_someOf iM_allOf iM_allWeight iM_enoughWeight iM_worthSum iM_firstRest iM_leastDrawn), (arI rM_tape kM_tape 900 fM_tape), (arI rM_letters kM_letters 8 fM_letters), (arI rM_fresh kM_fresh 287 fM_fresh), (arI rM_read kM_read 90 fM_read), (arI rM_fresher kM_fresher 8 fM_fresher)] sz) := by
  refine Met.ofW (cc := cX7_readLine) (maxL := 1) (ret := none) pnX7 rfl ?_
  intro p e s m args below meth c s₁ B hml hv
  obtain ⟨rfl, hsz, hP, hK, hD0, hE⟩ := hv
  have hx := B.exec
  have hb := B.bytes
  have hr := B.returns
  have hts : ∀ w ∈ wG, w.before ([.ref oM] : List Value).toArray s = true := fun w h => atoms_spec (ws := Cond.code yX7_readLine cX7_readLine 1 none :: wG) B.pre w (List.mem_cons_of_mem _ h)
  have hown : s.vm.findClass RX7 = some m.cls := own_of B.named rfl
  have hlocks := B.notSynchronized
  subst hsz
  have hD := hD0.self (sz := s.heap.size)
  generalize hAe : va_A [(oc7 oM iM_thrown rM_tape iM_taped iM_size iM_at iM_end iM_token iM_whole iM_nameSize iM_fault iM_place iM_trouble rM_letters iM_failed iM_hasCourt rM_r rM_fresh rM_told rM_read rM_st rM_undone rM_kept iM_undos iM_images rM_fresher iM_fresherSize iM_scale iM_night rM_heardRow rM_cutRow iM_breaths iM_cutMany iM_allBreaths rM_trial rM_words iM_fewestBreaths iM_orderMany iM_orderSum iM_leastOrder rM_often iM_setMany iM_someOf iM_allOf iM_allWeight iM_enoughWeight iM_worthSum iM_firstRest iM_leastDrawn), (arI rM_tape kM_tape 900 fM_tape), (arI rM_letters kM_letters 8 fM_letters), (arI rM_fresh kM_fresh 287 fM_fresh), (arI rM_read kM_read 90 fM_read), (arI rM_fresher kM_fresher 8 fM_fresher)] s.heap.size = A at hD hE ⊢
  have hA : ∀ q : Nat, s.heap.size ≤ q → A q := fun q h => by rw [← hAe]; exact Or.inr h
  have hS : va_S A s.heap s.heap [] := va_S.rf
  have hl := lv_entry ([.ref oM]) (n := 1) (Nat.le_of_ble_eq_true rfl)
  rw [lg_entry_eq]
  generalize (lg_sl ([.ref oM]) ++ List.replicate (1 - (lg_sl ([.ref oM])).length) Slot.unset).toArray = ls at hl ⊢
  have hl : lv_has ls 1 [(0, .ref oM)] := hl
  have hG := PX7_readLine_eq fM_tape iM_size iM_at iM_end iM_token iM_whole iM_nameSize iM_fault iM_place fM_letters iM_failed fM_fresh fM_read fM_fresher iM_fresherSize
  have pl_fM_fresh := r_P.lins
  refine lv_aload_n hx hb dX7_readLine_0 rfl (lv_at hl 0 rfl) ?_
  obtain ⟨sa_6599, vsa_6599, nsa_6599, fsa_6599, hnsa_6599, hnesa_6599, hfesa_6599, hRsa_6599, hSsa_6599⟩ := hE.2.2.1 (134, "court", [99, 111, 117, 114, 116]) (by decide)
  have hG := hG.trans (lt_eq hnesa_6599)
  have hG := hG.trans (lt_eq hfesa_6599)
  refine va_ldcS hx hb hown hRsa_6599 dX7_readLine_1 ?_
  have hMs := ml_of hD [true, false, true, false, false, false] (wc := [(oc7 oM iM_thrown rM_tape iM_taped iM_size iM_at iM_end iM_token iM_whole iM_nameSize iM_fault iM_place iM_trouble rM_letters iM_failed iM_hasCourt rM_r rM_fresh rM_told rM_read rM_st rM_undone rM_kept iM_undos iM_images rM_fresher iM_fresherSize iM_scale iM_night rM_heardRow rM_cutRow iM_breaths iM_cutMany iM_allBreaths rM_trial rM_words iM_fewestBreaths iM_orderMany iM_orderSum iM_leastOrder rM_often iM_setMany iM_someOf iM_allOf iM_allWeight iM_enoughWeight iM_worthSum iM_firstRest iM_leastDrawn), (arI rM_letters kM_letters 8 fM_letters)]) rfl
  have hFc := va_freeM hD hS hA _ hMs
  refine va_calli (va_runV (As := [.ref sa_6599]) (rest := []) ⟨hx, hb, hml, hown, hts⟩ (tX7_isWord l dC dI _ oM iM_thrown rM_tape iM_taped iM_size iM_at iM_end iM_token iM_whole iM_nameSize iM_fault iM_place iM_trouble rM_letters fM_letters kM_letters iM_failed iM_hasCourt rM_r rM_fresh rM_told rM_read rM_st rM_undone rM_kept iM_undos iM_images rM_fresher iM_fresherSize iM_scale iM_night rM_heardRow rM_cutRow iM_breaths iM_cutMany iM_allBreaths rM_trial rM_words iM_fewestBreaths iM_orderMany iM_orderSum iM_leastOrder rM_often iM_setMany iM_someOf iM_allOf iM_allWeight iM_enoughWeight iM_worthSum iM_firstRest iM_leastDrawn sa_6599 vsa_6599 nsa_6599 fsa_6599 b_iM_taped b_iM_size b_iM_end b_iM_nameSize b_iM_failed b_iM_hasCourt b_iM_undos b_iM_images b_iM_scale b_iM_breaths b_iM_cutMany r_T (Nat.le_trans (Nat.le_of_eq hnesa_6599) (by decide))) (cwV 1 hts (wd_V wd_420 wd_421 wd_422 wd_5 (wd_c wd_423)) rfl rfl rfl dv_yX7_isWord_1 ⟨Nat.le_of_ble_eq_true rfl, Nat.le_of_ble_eq_true rfl⟩) ⟨Pq.fb, recvX7 hK hP (q0 := 0) rfl, fun U hU hW => Pq.to (hP.ms _ hMs) (hD.ms _ hMs) (hK.ms [false, true, false, false, false] rfl) hSsa_6599 hE hS hFc hU hW⟩ rfl rfl hl.1 rfl (lv_room (Nat.le_of_ble_eq_true rfl)) dX7_readLine_3 ⟨Nat.le_of_ble_eq_true rfl, Nat.le_of_ble_eq_true rfl⟩) hS (fun q _ h => hFc q h) hFc (fun r u t H locs ht hvm hw hB hz1 hk1 hS => ?_)
  have hru9 := hw.2
  have hw := hw.1
  obtain ⟨hP, hD⟩ := Bw.goN (ws' := [(oc7 oM iM_thrown rM_tape iM_taped iM_size iM_at iM_end iM_token iM_whole iM_nameSize iM_fault iM_place iM_trouble rM_letters iM_failed iM_hasCourt rM_r rM_fresh rM_told rM_read rM_st rM_undone rM_kept iM_undos iM_images rM_fresher iM_fresherSize iM_scale iM_night rM_heardRow rM_cutRow iM_breaths iM_cutMany iM_allBreaths rM_trial rM_words iM_fewestBreaths iM_orderMany iM_orderSum iM_leastOrder rM_often iM_setMany iM_someOf iM_allOf iM_allWeight iM_enoughWeight iM_worthSum iM_firstRest iM_leastDrawn), (arI rM_tape kM_tape 900 fM_tape), (arI rM_letters kM_letters 8 fM_letters), (arI rM_fresh kM_fresh 287 fM_fresh), (arI rM_read kM_read 90 fM_read), (arI rM_fresher kM_fresher 8 fM_fresher)]) hB rfl ht hP hD _ hMs hk1 hFc rfl
  clear hz1 hk1 hvm ht hB hMs
  obtain ⟨x_6600, rfl⟩ : ∃ z, z = r := ⟨_, rfl⟩
  have hG := hG.trans (lt_eq hru9.symm)
  have bx_6600 := hw.1
  have dx_6600 := bz_tb bx_6600
  have lx_6600 := hw.2
  refine lv_if_eq (tgt := 16) hx hb dX7_readLine_6 (by decide) (fun c_6601 => ?_) (fun c_6601 => ?_)
  · skip
    have hG := hG.trans (if_pos c_6601)
    have gc_6601 := ti_eq c_6601 rfl kc_0
    clear lx_6600
    refine lv_aload_n hx hb dX7_readLine_16 rfl (lv_at hl 0 rfl) ?_
    obtain ⟨sa_6602, vsa_6602, nsa_6602, fsa_6602, hnsa_6602, hnesa_6602, hfesa_6602, hRsa_6602, hSsa_6602⟩ := hE.2.2.1 (136, "word", [119, 111, 114, 100]) (by decide)
    have hG := hG.trans (lt_eq hnesa_6602)
    have hG := hG.trans (lt_eq hfesa_6602)
    refine va_ldcS hx hb hown hRsa_6602 dX7_readLine_17 ?_
    refine lv_aload_n hx hb dX7_readLine_19 rfl (lv_at hl 0 rfl) ?_
    refine va_get (D := (dC, dI)) (ci := 7) (v := .ref rM_fresh) (C := RX7) (T := TX7) (N := 48) hx hb hts inX7 hown hK hP 0 rfl rfl 16 (by decide) (hts _ wd_156) (fun _ h9 => h9) rfl dX7_readLine_20 ?_
    refine lv_iconst (v := 2) hx hb dX7_readLine_23 (by decide) ?_
    refine va_iald hx hb hK hP 3 2 rfl rfl (by unfold vp_in; decide) dX7_readLine_24 ?_
    refine lv_topi (fun x_6603 ex_6603 => ?_)
    have hG := hG.trans (lt_eq ex_6603)
    have cx_6603 : (fM_fresh 2).toInt = x_6603.toInt := congrArg Int32.toInt (show fM_fresh 2 = x_6603 from ex_6603.symm)
    refine lv_bipush (v := 10) hx hb dX7_readLine_25 (by decide) ?_
    refine vz_jgeX hx hb dX7_readLine_27 dX7_readLine_30 dX7_readLine_31 dX7_readLine_34 (fun x_6604 ex_6604 b_x_6604 j_x_6604 => ?_)
    have hG := hG.trans (lt_eq ex_6604)
    have j_x_6604 : 1 ≤ x_6604.toInt → x_6603.toInt < 10 := fun h9 => by have h8 := j_x_6604 h9; rw [kc_10] at h8; exact h8
    have hMs := ml_of hD [true, true, true, true, true, false] (wc := [(oc7 oM iM_thrown rM_tape iM_taped iM_size iM_at iM_end iM_token iM_whole iM_nameSize iM_fault iM_place iM_trouble rM_letters iM_failed iM_hasCourt rM_r rM_fresh rM_told rM_read rM_st rM_undone rM_kept iM_undos iM_images rM_fresher iM_fresherSize iM_scale iM_night rM_heardRow rM_cutRow iM_breaths iM_cutMany iM_allBreaths rM_trial rM_words iM_fewestBreaths iM_orderMany iM_orderSum iM_leastOrder rM_often iM_setMany iM_someOf iM_allOf iM_allWeight iM_enoughWeight iM_worthSum iM_firstRest iM_leastDrawn), (arI rM_tape kM_tape 900 fM_tape), (arI rM_letters kM_letters 8 fM_letters), (arI rM_fresh kM_fresh 287 fM_fresh), (arI rM_read kM_read 90 fM_read)]) rfl
    have hFc := va_freeM hD hS hA _ hMs
    refine va_calli (va_runV (As := [.ref sa_6602, .int x_6604]) (rest := []) ⟨hx, hb, hml, hown, hts⟩ (tX7_begins l dC dI _ oM iM_thrown rM_tape fM_tape kM_tape iM_taped iM_size iM_at iM_end iM_token iM_whole iM_nameSize iM_fault iM_place iM_trouble rM_letters fM_letters kM_letters iM_failed iM_hasCourt rM_r rM_fresh fM_fresh kM_fresh rM_told rM_read fM_read kM_read rM_st rM_undone rM_kept iM_undos iM_images rM_fresher iM_fresherSize iM_scale iM_night rM_heardRow rM_cutRow iM_breaths iM_cutMany iM_allBreaths rM_trial rM_words iM_fewestBreaths iM_orderMany iM_orderSum iM_leastOrder rM_often iM_setMany iM_someOf iM_allOf iM_allWeight iM_enoughWeight iM_worthSum iM_firstRest iM_leastDrawn sa_6602 x_6604 vsa_6602 nsa_6602 fsa_6602 b_iM_taped b_iM_size b_iM_end b_iM_nameSize b_iM_failed b_iM_hasCourt b_iM_undos b_iM_images b_iM_scale b_iM_breaths b_iM_cutMany r_T r_P (Nat.le_trans (Nat.le_of_eq hnesa_6602) (by decide)) (by first | assumption | (have q0 := kc_0; have q1 := kc_1; first | exact ⟨by omega, by omega⟩ | omega) | decide | (intro h; exact absurd h (by decide)))) (cwV 2 hts (wd_V wd_450 wd_451 wd_452 wd_5 (wd_c wd_453)) rfl rfl rfl dv_yX7_begins_2 ⟨Nat.le_of_ble_eq_true rfl, Nat.le_of_ble_eq_true rfl⟩) ⟨Pq.fb, recvX7 hK hP (q0 := 0) rfl, fun U hU hW => Pq.to (hP.ms _ hMs) (hD.ms _ hMs) (hK.ms [true, true, true, true, false] rfl) hSsa_6602 hE hS hFc hU hW⟩ rfl rfl hl.1 rfl (lv_room (Nat.le_of_ble_eq_true rfl)) dX7_readLine_35 ⟨Nat.le_of_ble_eq_true rfl, Nat.le_of_ble_eq_true rfl⟩) hS (fun q _ h => hFc q h) hFc (fun r u t H locs ht hvm hw hB hz1 hk1 hS => ?_)
    have hru9 := hw.2
    have hw := hw.1
    refine ex_9_9 hB (fun x_6605 x_6606 x_6607 x_6608 x_6609 x_6610 x_6611 x_6612 f_6613 b_x_6606 b_x_6609 b_x_6612 e_x_6605_0 e_x_6605_1 e_x_6605_2 e_x_6605_3 e_x_6605_4 e_x_6605_5 hB => ?_)
    obtain ⟨hP, hD⟩ := Bw.goN (ws' := [(oc7 oM iM_thrown rM_tape iM_taped iM_size x_6605 x_6606 x_6607 x_6608 x_6609 x_6610 x_6611 iM_trouble rM_letters x_6612 iM_hasCourt rM_r rM_fresh rM_told rM_read rM_st rM_undone rM_kept iM_undos iM_images rM_fresher iM_fresherSize iM_scale iM_night rM_heardRow rM_cutRow iM_breaths iM_cutMany iM_allBreaths rM_trial rM_words iM_fewestBreaths iM_orderMany iM_orderSum iM_leastOrder rM_often iM_setMany iM_someOf iM_allOf iM_allWeight iM_enoughWeight iM_worthSum iM_firstRest iM_leastDrawn), (arI rM_tape kM_tape 900 fM_tape), (arI rM_letters kM_letters 8 f_6613), (arI rM_fresh kM_fresh 287 fM_fresh), (arI rM_read kM_read 90 fM_read), (arI rM_fresher kM_fresher 8 fM_fresher)]) hB rfl ht hP hD _ hMs hk1 hFc rfl
    clear hz1 hk1 hvm ht hB hMs
    rw [← hru9] at e_x_6605_5
    obtain ⟨x_6614, rfl⟩ : ∃ z, z = r := ⟨_, rfl⟩
    have hG := hG.trans (un10_eq e_x_6605_5)
    have bx_6614 := hw.1
    have dx_6614 := bz_tb bx_6614
    have lx_6614 := hw.2
    clear r_T
    refine lv_if_eq (tgt := 48) hx hb dX7_readLine_38 (by decide) (fun c_6615 => ?_) (fun c_6615 => ?_)
    · skip
      have hG := hG.trans (if_pos c_6615)
      have gc_6615 := ti_eq c_6615 rfl kc_0
      clear e_x_6605_3
      refine lv_aload_n hx hb dX7_readLine_48 rfl (lv_at hl 0 rfl) ?_
      obtain ⟨sa_6616, vsa_6616, nsa_6616, fsa_6616, hnsa_6616, hnesa_6616, hfesa_6616, hRsa_6616, hSsa_6616⟩ := hE.2.2.1 (138, "king", [107, 105, 110, 103]) (by decide)
      have hG := hG.trans (lt_eq hnesa_6616)
      have hG := hG.trans (lt_eq hfesa_6616)
      refine va_ldcS hx hb hown hRsa_6616 dX7_readLine_49 ?_
      refine lv_aload_n hx hb dX7_readLine_51 rfl (lv_at hl 0 rfl) ?_
      refine va_get (D := (dC, dI)) (ci := 7) (v := .ref rM_fresh) (C := RX7) (T := TX7) (N := 48) hx hb hts inX7 hown hK hP 0 rfl rfl 16 (by decide) (hts _ wd_156) (fun _ h9 => h9) rfl dX7_readLine_52 ?_
      refine lv_bipush (v := 7) hx hb dX7_readLine_55 (by decide) ?_
      refine va_iald hx hb hK hP 3 2 rfl rfl (by unfold vp_in; decide) dX7_readLine_57 ?_
      refine lv_topi (fun x_6617 ex_6617 => ?_)
      have hG := hG.trans (lt_eq ex_6617)
      have cx_6617 : (fM_fresh 7).toInt = x_6617.toInt := congrArg Int32.toInt (show fM_fresh 7 = x_6617 from ex_6617.symm)
      refine lv_bipush (v := 8) hx hb dX7_readLine_58 (by decide) ?_
      refine vz_jgeX hx hb dX7_readLine_60 dX7_readLine_63 dX7_readLine_64 dX7_readLine_67 (fun x_6618 ex_6618 b_x_6618 j_x_6618 => ?_)
      have hG := hG.trans (lt_eq ex_6618)
      have j_x_6618 : 1 ≤ x_6618.toInt → x_6617.toInt < 8 := fun h9 => by have h8 := j_x_6618 h9; rw [kc_8] at h8; exact h8
      have hMs := ml_of hD [true, true, true, true, true, false] (wc := [(oc7 oM iM_thrown rM_tape iM_taped iM_size x_6605 x_6606 x_6607 x_6608 x_6609 x_6610 x_6611 iM_trouble rM_letters x_6612 iM_hasCourt rM_r rM_fresh rM_told rM_read rM_st rM_undone rM_kept iM_undos iM_images rM_fresher iM_fresherSize iM_scale iM_night rM_heardRow rM_cutRow iM_breaths iM_cutMany iM_allBreaths rM_trial rM_words iM_fewestBreaths iM_orderMany iM_orderSum iM_leastOrder rM_often iM_setMany iM_someOf iM_allOf iM_allWeight iM_enoughWeight iM_worthSum iM_firstRest iM_leastDrawn), (arI rM_tape kM_tape 900 fM_tape), (arI rM_letters kM_letters 8 f_6613), (arI rM_fresh kM_fresh 287 fM_fresh), (arI rM_read kM_read 90 fM_read)]) rfl
      have hFc := va_freeM hD hS hA _ hMs
      refine va_calli (va_runV (As := [.ref sa_6616, .int x_6618]) (rest := []) ⟨hx, hb, hml, hown, hts⟩ (tX7_begins l dC dI _ oM iM_thrown rM_tape fM_tape kM_tape iM_taped iM_size x_6605 x_6606 x_6607 x_6608 x_6609 x_6610 x_6611 iM_trouble rM_letters f_6613 kM_letters x_6612 iM_hasCourt rM_r rM_fresh fM_fresh kM_fresh rM_told rM_read fM_read kM_read rM_st rM_undone rM_kept iM_undos iM_images rM_fresher iM_fresherSize iM_scale iM_night rM_heardRow rM_cutRow iM_breaths iM_cutMany iM_allBreaths rM_trial rM_words iM_fewestBreaths iM_orderMany iM_orderSum iM_leastOrder rM_often iM_setMany iM_someOf iM_allOf iM_allWeight iM_enoughWeight iM_worthSum iM_firstRest iM_leastDrawn sa_6616 x_6618 vsa_6616 nsa_6616 fsa_6616 b_iM_taped b_iM_size b_x_6606 b_x_6609 b_x_6612 b_iM_hasCourt b_iM_undos b_iM_images b_iM_scale b_iM_breaths b_iM_cutMany e_x_6605_1 r_P (Nat.le_trans (Nat.le_of_eq hnesa_6616) (by decide)) (by first | assumption | (have q0 := kc_0; have q1 := kc_1; first | exact ⟨by omega, by omega⟩ | omega) | decide | (intro h; exact absurd h (by decide)))) (cwV 2 hts (wd_V wd_450 wd_451 wd_452 wd_5 (wd_c wd_453)) rfl rfl rfl dv_yX7_begins_2 ⟨Nat.le_of_ble_eq_true rfl, Nat.le_of_ble_eq_true rfl⟩) ⟨Pq.fb, recvX7 hK hP (q0 := 0) rfl, fun U hU hW => Pq.to (hP.ms _ hMs) (hD.ms _ hMs) (hK.ms [true, true, true, true, false] rfl) hSsa_6616 hE hS hFc hU hW⟩ rfl rfl hl.1 rfl (lv_room (Nat.le_of_ble_eq_true rfl)) dX7_readLine_68 ⟨Nat.le_of_ble_eq_true rfl, Nat.le_of_ble_eq_true rfl⟩) hS (fun q _ h => hFc q h) hFc (fun r u t H locs ht hvm hw hB hz1 hk1 hS => ?_)
      have hru9 := hw.2
      have hw := hw.1
      refine ex_9_9 hB (fun x_6619 x_6620 x_6621 x_6622 x_6623 x_6624 x_6625 x_6626 f_6627 b_x_6620 b_x_6623 b_x_6626 e_x_6619_0 e_x_6619_1 e_x_6619_2 e_x_6619_3 e_x_6619_4 e_x_6619_5 hB => ?_)
      obtain ⟨hP, hD⟩ := Bw.goN (ws' := [(oc7 oM iM_thrown rM_tape iM_taped iM_size x_6619 x_6620 x_6621 x_6622 x_6623 x_6624 x_6625 iM_trouble rM_letters x_6626 iM_hasCourt rM_r rM_fresh rM_told rM_read rM_st rM_undone rM_kept iM_undos iM_images rM_fresher iM_fresherSize iM_scale iM_night rM_heardRow rM_cutRow iM_breaths iM_cutMany iM_allBreaths rM_trial rM_words iM_fewestBreaths iM_orderMany iM_orderSum iM_leastOrder rM_often iM_setMany iM_someOf iM_allOf iM_allWeight iM_enoughWeight iM_worthSum iM_firstRest iM_leastDrawn), (arI rM_tape kM_tape 900 fM_tape), (arI rM_letters kM_letters 8 f_6627), (arI rM_fresh kM_fresh 287 fM_fresh), (arI rM_read kM_read 90 fM_read), (arI rM_fresher kM_fresher 8 fM_fresher)]) hB rfl ht hP hD _ hMs hk1 hFc rfl
      clear hz1 hk1 hvm ht hB hMs
      rw [← hru9] at e_x_6619_5
      obtain ⟨x_6628, rfl⟩ : ∃ z, z = r := ⟨_, rfl⟩
      have hG := hG.trans (un10_eq e_x_6619_5)
      have bx_6628 := hw.1
      have dx_6628 := bz_tb bx_6628
      have lx_6628 := hw.2
      clear e_x_6605_1
      clear e_x_6605_4
      refine lv_if_eq (tgt := 82) hx hb dX7_readLine_71 (by decide) (fun c_6629 => ?_) (fun c_6629 => ?_)
      · skip
        have hG := hG.trans (if_pos c_6629)
        have gc_6629 := ti_eq c_6629 rfl kc_0
        clear e_x_6619_3
        refine lv_aload_n hx hb dX7_readLine_82 rfl (lv_at hl 0 rfl) ?_
        obtain ⟨sa_6630, vsa_6630, nsa_6630, fsa_6630, hnsa_6630, hnesa_6630, hfesa_6630, hRsa_6630, hSsa_6630⟩ := hE.2.2.1 (140, "queen", [113, 117, 101, 101, 110]) (by decide)
        have hG := hG.trans (lt_eq hnesa_6630)
        have hG := hG.trans (lt_eq hfesa_6630)
        refine va_ldcS hx hb hown hRsa_6630 dX7_readLine_83 ?_
        refine lv_aload_n hx hb dX7_readLine_85 rfl (lv_at hl 0 rfl) ?_
        refine va_get (D := (dC, dI)) (ci := 7) (v := .ref rM_fresh) (C := RX7) (T := TX7) (N := 48) hx hb hts inX7 hown hK hP 0 rfl rfl 16 (by decide) (hts _ wd_156) (fun _ h9 => h9) rfl dX7_readLine_86 ?_
        refine lv_bipush (v := 7) hx hb dX7_readLine_89 (by decide) ?_
        refine va_iald hx hb hK hP 3 2 rfl rfl (by unfold vp_in; decide) dX7_readLine_91 ?_
        refine lv_topi (fun x_6631 ex_6631 => ?_)
        have hG := hG.trans (lt_eq ex_6631)
        have cx_6631 : (fM_fresh 7).toInt = x_6631.toInt := congrArg Int32.toInt (show fM_fresh 7 = x_6631 from ex_6631.symm)
        refine lv_bipush (v := 8) hx hb dX7_readLine_92 (by decide) ?_
        refine vz_jgeX hx hb dX7_readLine_94 dX7_readLine_97 dX7_readLine_98 dX7_readLine_101 (fun x_6632 ex_6632 b_x_6632 j_x_6632 => ?_)
        have hG := hG.trans (lt_eq ex_6632)
        have j_x_6632 : 1 ≤ x_6632.toInt → x_6631.toInt < 8 := fun h9 => by have h8 := j_x_6632 h9; rw [kc_8] at h8; exact h8
        have hMs := ml_of hD [true, true, true, true, true, false] (wc := [(oc7 oM iM_thrown rM_tape iM_taped iM_size x_6619 x_6620 x_6621 x_6622 x_6623 x_6624 x_6625 iM_trouble rM_letters x_6626 iM_hasCourt rM_r rM_fresh rM_told rM_read rM_st rM_undone rM_kept iM_undos iM_images rM_fresher iM_fresherSize iM_scale iM_night rM_heardRow rM_cutRow iM_breaths iM_cutMany iM_allBreaths rM_trial rM_words iM_fewestBreaths iM_orderMany iM_orderSum iM_leastOrder rM_often iM_setMany iM_someOf iM_allOf iM_allWeight iM_enoughWeight iM_worthSum iM_firstRest iM_leastDrawn), (arI rM_tape kM_tape 900 fM_tape), (arI rM_letters kM_letters 8 f_6627), (arI rM_fresh kM_fresh 287 fM_fresh), (arI rM_read kM_read 90 fM_read)]) rfl
        have hFc := va_freeM hD hS hA _ hMs
        refine va_calli (va_runV (As := [.ref sa_6630, .int x_6632]) (rest := []) ⟨hx, hb, hml, hown, hts⟩ (tX7_begins l dC dI _ oM iM_thrown rM_tape fM_tape kM_tape iM_taped iM_size x_6619 x_6620 x_6621 x_6622 x_6623 x_6624 x_6625 iM_trouble rM_letters f_6627 kM_letters x_6626 iM_hasCourt rM_r rM_fresh fM_fresh kM_fresh rM_told rM_read fM_read kM_read rM_st rM_undone rM_kept iM_undos iM_images rM_fresher iM_fresherSize iM_scale iM_night rM_heardRow rM_cutRow iM_breaths iM_cutMany iM_allBreaths rM_trial rM_words iM_fewestBreaths iM_orderMany iM_orderSum iM_leastOrder rM_often iM_setMany iM_someOf iM_allOf iM_allWeight iM_enoughWeight iM_worthSum iM_firstRest iM_leastDrawn sa_6630 x_6632 vsa_6630 nsa_6630 fsa_6630 b_iM_taped b_iM_size b_x_6620 b_x_6623 b_x_6626 b_iM_hasCourt b_iM_undos b_iM_images b_iM_scale b_iM_breaths b_iM_cutMany e_x_6619_1 r_P (Nat.le_trans (Nat.le_of_eq hnesa_6630) (by decide)) (by first | assumption | (have q0 := kc_0; have q1 := kc_1; first | exact ⟨by omega, by omega⟩ | omega) | decide | (intro h; exact absurd h (by decide)))) (cwV 2 hts (wd_V wd_450 wd_451 wd_452 wd_5 (wd_c wd_453)) rfl rfl rfl dv_yX7_begins_2 ⟨Nat.le_of_ble_eq_true rfl, Nat.le_of_ble_eq_true rfl⟩) ⟨Pq.fb, recvX7 hK hP (q0 := 0) rfl, fun U hU hW => Pq.to (hP.ms _ hMs) (hD.ms _ hMs) (hK.ms [true, true, true, true, false] rfl) hSsa_6630 hE hS hFc hU hW⟩ rfl rfl hl.1 rfl (lv_room (Nat.le_of_ble_eq_true rfl)) dX7_readLine_102 ⟨Nat.le_of_ble_eq_true rfl, Nat.le_of_ble_eq_true rfl⟩) hS (fun q _ h => hFc q h) hFc (fun r u t H locs ht hvm hw hB hz1 hk1 hS => ?_)
        have hru9 := hw.2
        have hw := hw.1
        refine ex_9_9 hB (fun x_6633 x_6634 x_6635 x_6636 x_6637 x_6638 x_6639 x_6640 f_6641 b_x_6634 b_x_6637 b_x_6640 e_x_6633_0 e_x_6633_1 e_x_6633_2 e_x_6633_3 e_x_6633_4 e_x_6633_5 hB => ?_)
        obtain ⟨hP, hD⟩ := Bw.goN (ws' := [(oc7 oM iM_thrown rM_tape iM_taped iM_size x_6633 x_6634 x_6635 x_6636 x_6637 x_6638 x_6639 iM_trouble rM_letters x_6640 iM_hasCourt rM_r rM_fresh rM_told rM_read rM_st rM_undone rM_kept iM_undos iM_images rM_fresher iM_fresherSize iM_scale iM_night rM_heardRow rM_cutRow iM_breaths iM_cutMany iM_allBreaths rM_trial rM_words iM_fewestBreaths iM_orderMany iM_orderSum iM_leastOrder rM_often iM_setMany iM_someOf iM_allOf iM_allWeight iM_enoughWeight iM_worthSum iM_firstRest iM_leastDrawn), (arI rM_tape kM_tape 900 fM_tape), (arI rM_letters kM_letters 8 f_6641), (arI rM_fresh kM_fresh 287 fM_fresh), (arI rM_read kM_read 90 fM_read), (arI rM_fresher kM_fresher 8 fM_fresher)]) hB rfl ht hP hD _ hMs hk1 hFc rfl
        clear hz1 hk1 hvm ht hB hMs
        rw [← hru9] at e_x_6633_5
        obtain ⟨x_6642, rfl⟩ : ∃ z, z = r := ⟨_, rfl⟩
        have hG := hG.trans (un10_eq e_x_6633_5)
        have bx_6642 := hw.1
        have dx_6642 := bz_tb bx_6642
        have lx_6642 := hw.2
        clear e_x_6619_1
        clear e_x_6619_4
        refine lv_if_eq (tgt := 116) hx hb dX7_readLine_105 (by decide) (fun c_6643 => ?_) (fun c_6643 => ?_)
        · skip
          have hG := hG.trans (if_pos c_6643)
          have gc_6643 := ti_eq c_6643 rfl kc_0
          clear e_x_6633_3
          refine lv_aload_n hx hb dX7_readLine_116 rfl (lv_at hl 0 rfl) ?_
          obtain ⟨sa_6644, vsa_6644, nsa_6644, fsa_6644, hnsa_6644, hnesa_6644, hfesa_6644, hRsa_6644, hSsa_6644⟩ := hE.2.2.1 (142, "chance", [99, 104, 97, 110, 99, 101]) (by decide)
          have hG := hG.trans (lt_eq hnesa_6644)
          have hG := hG.trans (lt_eq hfesa_6644)
          refine va_ldcS hx hb hown hRsa_6644 dX7_readLine_117 ?_
          refine lv_aload_n hx hb dX7_readLine_119 rfl (lv_at hl 0 rfl) ?_
          refine va_get (D := (dC, dI)) (ci := 7) (v := .ref rM_fresh) (C := RX7) (T := TX7) (N := 48) hx hb hts inX7 hown hK hP 0 rfl rfl 16 (by decide) (hts _ wd_156) (fun _ h9 => h9) rfl dX7_readLine_120 ?_
          refine lv_bipush (v := 7) hx hb dX7_readLine_123 (by decide) ?_
          refine va_iald hx hb hK hP 3 2 rfl rfl (by unfold vp_in; decide) dX7_readLine_125 ?_
          refine lv_topi (fun x_6645 ex_6645 => ?_)
          have hG := hG.trans (lt_eq ex_6645)
          have cx_6645 : (fM_fresh 7).toInt = x_6645.toInt := congrArg Int32.toInt (show fM_fresh 7 = x_6645 from ex_6645.symm)
          refine lv_bipush (v := 8) hx hb dX7_readLine_126 (by decide) ?_
          refine lv_icmp_ge (tgt := 146) hx hb dX7_readLine_128 (by decide) (fun c_6646 => ?_) (fun c_6646 => ?_)
          · skip
            have hG := hG.trans (if_pos c_6646)
            have gc_6646 := ti_le c_6646 kc_8 rfl
            refine lv_iconst (v := 0) hx hb dX7_readLine_146 (by decide) ?_
            have hMs := ml_of hD [true, true, true, true, true, false] (wc := [(oc7 oM iM_thrown rM_tape iM_taped iM_size x_6633 x_6634 x_6635 x_6636 x_6637 x_6638 x_6639 iM_trouble rM_letters x_6640 iM_hasCourt rM_r rM_fresh rM_told rM_read rM_st rM_undone rM_kept iM_undos iM_images rM_fresher iM_fresherSize iM_scale iM_night rM_heardRow rM_cutRow iM_breaths iM_cutMany iM_allBreaths rM_trial rM_words iM_fewestBreaths iM_orderMany iM_orderSum iM_leastOrder rM_often iM_setMany iM_someOf iM_allOf iM_allWeight iM_enoughWeight iM_worthSum iM_firstRest iM_leastDrawn), (arI rM_tape kM_tape 900 fM_tape), (arI rM_letters kM_letters 8 f_6641), (arI rM_fresh kM_fresh 287 fM_fresh), (arI rM_read kM_read 90 fM_read)]) rfl
            have hFc := va_freeM hD hS hA _ hMs
            refine va_calli (va_runV (As := [.ref sa_6644, .int 0]) (rest := []) ⟨hx, hb, hml, hown, hts⟩ (tX7_begins l dC dI _ oM iM_thrown rM_tape fM_tape kM_tape iM_taped iM_size x_6633 x_6634 x_6635 x_6636 x_6637 x_6638 x_6639 iM_trouble rM_letters f_6641 kM_letters x_6640 iM_hasCourt rM_r rM_fresh fM_fresh kM_fresh rM_told rM_read fM_read kM_read rM_st rM_undone rM_kept iM_undos iM_images rM_fresher iM_fresherSize iM_scale iM_night rM_heardRow rM_cutRow iM_breaths iM_cutMany iM_allBreaths rM_trial rM_words iM_fewestBreaths iM_orderMany iM_orderSum iM_leastOrder rM_often iM_setMany iM_someOf iM_allOf iM_allWeight iM_enoughWeight iM_worthSum iM_firstRest iM_leastDrawn sa_6644 0 vsa_6644 nsa_6644 fsa_6644 b_iM_taped b_iM_size b_x_6634 b_x_6637 b_x_6640 b_iM_hasCourt b_iM_undos b_iM_images b_iM_scale b_iM_breaths b_iM_cutMany e_x_6633_1 r_P (Nat.le_trans (Nat.le_of_eq hnesa_6644) (by decide)) ⟨(om_b1de7dbe kc_0), (om_270f4ea0 kc_0)⟩) (cwV 2 hts (wd_V wd_450 wd_451 wd_452 wd_5 (wd_c wd_453)) rfl rfl rfl dv_yX7_begins_2 ⟨Nat.le_of_ble_eq_true rfl, Nat.le_of_ble_eq_true rfl⟩) ⟨Pq.fb, recvX7 hK hP (q0 := 0) rfl, fun U hU hW => Pq.to (hP.ms _ hMs) (hD.ms _ hMs) (hK.ms [true, true, true, true, false] rfl) hSsa_6644 hE hS hFc hU hW⟩ rfl rfl hl.1 rfl (lv_room (Nat.le_of_ble_eq_true rfl)) dX7_readLine_147 ⟨Nat.le_of_ble_eq_true rfl, Nat.le_of_ble_eq_true rfl⟩) hS (fun q _ h => hFc q h) hFc (fun r u t H locs ht hvm hw hB hz1 hk1 hS => ?_)
            have hru9 := hw.2
            have hw := hw.1
            refine ex_9_9 hB (fun x_6647 x_6648 x_6649 x_6650 x_6651 x_6652 x_6653 x_6654 f_6655 b_x_6648 b_x_6651 b_x_6654 e_x_6647_0 e_x_6647_1 e_x_6647_2 e_x_6647_3 e_x_6647_4 e_x_6647_5 hB => ?_)
            obtain ⟨hP, hD⟩ := Bw.goN (ws' := [(oc7 oM iM_thrown rM_tape iM_taped iM_size x_6647 x_6648 x_6649 x_6650 x_6651 x_6652 x_6653 iM_trouble rM_letters x_6654 iM_hasCourt rM_r rM_fresh rM_told rM_read rM_st rM_undone rM_kept iM_undos iM_images rM_fresher iM_fresherSize iM_scale iM_night rM_heardRow rM_cutRow iM_breaths iM_cutMany iM_allBreaths rM_trial rM_words iM_fewestBreaths iM_orderMany iM_orderSum iM_leastOrder rM_often iM_setMany iM_someOf iM_allOf iM_allWeight iM_enoughWeight iM_worthSum iM_firstRest iM_leastDrawn), (arI rM_tape kM_tape 900 fM_tape), (arI rM_letters kM_letters 8 f_6655), (arI rM_fresh kM_fresh 287 fM_fresh), (arI rM_read kM_read 90 fM_read), (arI rM_fresher kM_fresher 8 fM_fresher)]) hB rfl ht hP hD _ hMs hk1 hFc rfl
            clear hz1 hk1 hvm ht hB hMs
            rw [← hru9] at e_x_6647_5
            obtain ⟨x_6656, rfl⟩ : ∃ z, z = r := ⟨_, rfl⟩
            have hG := hG.trans (un10_eq e_x_6647_5)
            have bx_6656 := hw.1
            have dx_6656 := bz_tb bx_6656
            have lx_6656 := hw.2
            clear e_x_6633_1
            clear e_x_6633_4
            refine lv_if_eq (tgt := 161) hx hb dX7_readLine_150 (by decide) (fun c_6657 => ?_) (fun c_6657 => ?_)
            · skip
              have hG := hG.trans (if_pos c_6657)
              have gc_6657 := ti_eq c_6657 rfl kc_0
              clear e_x_6647_3
              refine lv_aload_n hx hb dX7_readLine_161 rfl (lv_at hl 0 rfl) ?_
              obtain ⟨sa_6658, vsa_6658, nsa_6658, fsa_6658, hnsa_6658, hnesa_6658, hfesa_6658, hRsa_6658, hSsa_6658⟩ := hE.2.2.1 (144, "throne", [116, 104, 114, 111, 110, 101]) (by decide)
              have hG := hG.trans (lt_eq hnesa_6658)
              have hG := hG.trans (lt_eq hfesa_6658)
              refine va_ldcS hx hb hown hRsa_6658 dX7_readLine_162 ?_
              have hMs := ml_of hD [true, false, true, false, false, false] (wc := [(oc7 oM iM_thrown rM_tape iM_taped iM_size x_6647 x_6648 x_6649 x_6650 x_6651 x_6652 x_6653 iM_trouble rM_letters x_6654 iM_hasCourt rM_r rM_fresh rM_told rM_read rM_st rM_undone rM_kept iM_undos iM_images rM_fresher iM_fresherSize iM_scale iM_night rM_heardRow rM_cutRow iM_breaths iM_cutMany iM_allBreaths rM_trial rM_words iM_fewestBreaths iM_orderMany iM_orderSum iM_leastOrder rM_often iM_setMany iM_someOf iM_allOf iM_allWeight iM_enoughWeight iM_worthSum iM_firstRest iM_leastDrawn), (arI rM_letters kM_letters 8 f_6655)]) rfl
              have hFc := va_freeM hD hS hA _ hMs
              refine va_calli (va_runV (As := [.ref sa_6658]) (rest := []) ⟨hx, hb, hml, hown, hts⟩ (tX7_isWord l dC dI _ oM iM_thrown rM_tape iM_taped iM_size x_6647 x_6648 x_6649 x_6650 x_6651 x_6652 x_6653 iM_trouble rM_letters f_6655 kM_letters x_6654 iM_hasCourt rM_r rM_fresh rM_told rM_read rM_st rM_undone rM_kept iM_undos iM_images rM_fresher iM_fresherSize iM_scale iM_night rM_heardRow rM_cutRow iM_breaths iM_cutMany iM_allBreaths rM_trial rM_words iM_fewestBreaths iM_orderMany iM_orderSum iM_leastOrder rM_often iM_setMany iM_someOf iM_allOf iM_allWeight iM_enoughWeight iM_worthSum iM_firstRest iM_leastDrawn sa_6658 vsa_6658 nsa_6658 fsa_6658 b_iM_taped b_iM_size b_x_6648 b_x_6651 b_x_6654 b_iM_hasCourt b_iM_undos b_iM_images b_iM_scale b_iM_breaths b_iM_cutMany e_x_6647_1 (Nat.le_trans (Nat.le_of_eq hnesa_6658) (by decide))) (cwV 1 hts (wd_V wd_420 wd_421 wd_422 wd_5 (wd_c wd_423)) rfl rfl rfl dv_yX7_isWord_1 ⟨Nat.le_of_ble_eq_true rfl, Nat.le_of_ble_eq_true rfl⟩) ⟨Pq.fb, recvX7 hK hP (q0 := 0) rfl, fun U hU hW => Pq.to (hP.ms _ hMs) (hD.ms _ hMs) (hK.ms [false, true, false, false, false] rfl) hSsa_6658 hE hS hFc hU hW⟩ rfl rfl hl.1 rfl (lv_room (Nat.le_of_ble_eq_true rfl)) dX7_readLine_164 ⟨Nat.le_of_ble_eq_true rfl, Nat.le_of_ble_eq_true rfl⟩) hS (fun q _ h => hFc q h) hFc (fun r u t H locs ht hvm hw hB hz1 hk1 hS => ?_)
              have hru9 := hw.2
              have hw := hw.1
              obtain ⟨hP, hD⟩ := Bw.goN (ws' := [(oc7 oM iM_thrown rM_tape iM_taped iM_size x_6647 x_6648 x_6649 x_6650 x_6651 x_6652 x_6653 iM_trouble rM_letters x_6654 iM_hasCourt rM_r rM_fresh rM_told rM_read rM_st rM_undone rM_kept iM_undos iM_images rM_fresher iM_fresherSize iM_scale iM_night rM_heardRow rM_cutRow iM_breaths iM_cutMany iM_allBreaths rM_trial rM_words iM_fewestBreaths iM_orderMany iM_orderSum iM_leastOrder rM_often iM_setMany iM_someOf iM_allOf iM_allWeight iM_enoughWeight iM_worthSum iM_firstRest iM_leastDrawn), (arI rM_tape kM_tape 900 fM_tape), (arI rM_letters kM_letters 8 f_6655), (arI rM_fresh kM_fresh 287 fM_fresh), (arI rM_read kM_read 90 fM_read), (arI rM_fresher kM_fresher 8 fM_fresher)]) hB rfl ht hP hD _ hMs hk1 hFc rfl
              clear hz1 hk1 hvm ht hB hMs
              obtain ⟨x_6659, rfl⟩ : ∃ z, z = r := ⟨_, rfl⟩
              have hG := hG.trans (lt_eq hru9.symm)
              have bx_6659 := hw.1
              have dx_6659 := bz_tb bx_6659
              have lx_6659 := hw.2
              refine lv_if_eq (tgt := 177) hx hb dX7_readLine_167 (by decide) (fun c_6660 => ?_) (fun c_6660 => ?_)
              · skip
                have hG := hG.trans (if_pos c_6660)
                have gc_6660 := ti_eq c_6660 rfl kc_0
                clear lx_6659
                refine lv_aload_n hx hb dX7_readLine_177 rfl (lv_at hl 0 rfl) ?_
                obtain ⟨sa_6661, vsa_6661, nsa_6661, fsa_6661, hnsa_6661, hnesa_6661, hfesa_6661, hRsa_6661, hSsa_6661⟩ := hE.2.2.1 (146, "unsure", [117, 110, 115, 117, 114, 101]) (by decide)
                have hG := hG.trans (lt_eq hnesa_6661)
                have hG := hG.trans (lt_eq hfesa_6661)
                refine va_ldcS hx hb hown hRsa_6661 dX7_readLine_178 ?_
                refine lv_aload_n hx hb dX7_readLine_180 rfl (lv_at hl 0 rfl) ?_
                refine va_get (D := (dC, dI)) (ci := 7) (v := .ref rM_fresh) (C := RX7) (T := TX7) (N := 48) hx hb hts inX7 hown hK hP 0 rfl rfl 16 (by decide) (hts _ wd_156) (fun _ h9 => h9) rfl dX7_readLine_181 ?_
                refine lv_iconst (v := 3) hx hb dX7_readLine_184 (by decide) ?_
                refine va_iald hx hb hK hP 3 2 rfl rfl (by unfold vp_in; decide) dX7_readLine_185 ?_
                refine lv_topi (fun x_6662 ex_6662 => ?_)
                have hG := hG.trans (lt_eq ex_6662)
                have cx_6662 : (fM_fresh 3).toInt = x_6662.toInt := congrArg Int32.toInt (show fM_fresh 3 = x_6662 from ex_6662.symm)
                refine lv_iconst (v := 4) hx hb dX7_readLine_186 (by decide) ?_
                refine vz_jgeX hx hb dX7_readLine_187 dX7_readLine_190 dX7_readLine_191 dX7_readLine_194 (fun x_6663 ex_6663 b_x_6663 j_x_6663 => ?_)
                have hG := hG.trans (lt_eq ex_6663)
                have j_x_6663 : 1 ≤ x_6663.toInt → x_6662.toInt < 4 := fun h9 => by have h8 := j_x_6663 h9; rw [kc_4] at h8; exact h8
                have hMs := ml_of hD [true, true, true, true, true, false] (wc := [(oc7 oM iM_thrown rM_tape iM_taped iM_size x_6647 x_6648 x_6649 x_6650 x_6651 x_6652 x_6653 iM_trouble rM_letters x_6654 iM_hasCourt rM_r rM_fresh rM_told rM_read rM_st rM_undone rM_kept iM_undos iM_images rM_fresher iM_fresherSize iM_scale iM_night rM_heardRow rM_cutRow iM_breaths iM_cutMany iM_allBreaths rM_trial rM_words iM_fewestBreaths iM_orderMany iM_orderSum iM_leastOrder rM_often iM_setMany iM_someOf iM_allOf iM_allWeight iM_enoughWeight iM_worthSum iM_firstRest iM_leastDrawn), (arI rM_tape kM_tape 900 fM_tape), (arI rM_letters kM_letters 8 f_6655), (arI rM_fresh kM_fresh 287 fM_fresh), (arI rM_read kM_read 90 fM_read)]) rfl
                have hFc := va_freeM hD hS hA _ hMs
                refine va_calli (va_runV (As := [.ref sa_6661, .int x_6663]) (rest := []) ⟨hx, hb, hml, hown, hts⟩ (tX7_begins l dC dI _ oM iM_thrown rM_tape fM_tape kM_tape iM_taped iM_size x_6647 x_6648 x_6649 x_6650 x_6651 x_6652 x_6653 iM_trouble rM_letters f_6655 kM_letters x_6654 iM_hasCourt rM_r rM_fresh fM_fresh kM_fresh rM_told rM_read fM_read kM_read rM_st rM_undone rM_kept iM_undos iM_images rM_fresher iM_fresherSize iM_scale iM_night rM_heardRow rM_cutRow iM_breaths iM_cutMany iM_allBreaths rM_trial rM_words iM_fewestBreaths iM_orderMany iM_orderSum iM_leastOrder rM_often iM_setMany iM_someOf iM_allOf iM_allWeight iM_enoughWeight iM_worthSum iM_firstRest iM_leastDrawn sa_6661 x_6663 vsa_6661 nsa_6661 fsa_6661 b_iM_taped b_iM_size b_x_6648 b_x_6651 b_x_6654 b_iM_hasCourt b_iM_undos b_iM_images b_iM_scale b_iM_breaths b_iM_cutMany e_x_6647_1 r_P (Nat.le_trans (Nat.le_of_eq hnesa_6661) (by decide)) (by first | assumption | (have q0 := kc_0; have q1 := kc_1; first | exact ⟨by omega, by omega⟩ | omega) | decide | (intro h; exact absurd h (by decide)))) (cwV 2 hts (wd_V wd_450 wd_451 wd_452 wd_5 (wd_c wd_453)) rfl rfl rfl dv_yX7_begins_2 ⟨Nat.le_of_ble_eq_true rfl, Nat.le_of_ble_eq_true rfl⟩) ⟨Pq.fb, recvX7 hK hP (q0 := 0) rfl, fun U hU hW => Pq.to (hP.ms _ hMs) (hD.ms _ hMs) (hK.ms [true, true, true, true, false] rfl) hSsa_6661 hE hS hFc hU hW⟩ rfl rfl hl.1 rfl (lv_room (Nat.le_of_ble_eq_true rfl)) dX7_readLine_195 ⟨Nat.le_of_ble_eq_true rfl, Nat.le_of_ble_eq_true rfl⟩) hS (fun q _ h => hFc q h) hFc (fun r u t H locs ht hvm hw hB hz1 hk1 hS => ?_)
                have hru9 := hw.2
                have hw := hw.1
                refine ex_9_9 hB (fun x_6664 x_6665 x_6666 x_6667 x_6668 x_6669 x_6670 x_6671 f_6672 b_x_6665 b_x_6668 b_x_6671 e_x_6664_0 e_x_6664_1 e_x_6664_2 e_x_6664_3 e_x_6664_4 e_x_6664_5 hB => ?_)
                obtain ⟨hP, hD⟩ := Bw.goN (ws' := [(oc7 oM iM_thrown rM_tape iM_taped iM_size x_6664 x_6665 x_6666 x_6667 x_6668 x_6669 x_6670 iM_trouble rM_letters x_6671 iM_hasCourt rM_r rM_fresh rM_told rM_read rM_st rM_undone rM_kept iM_undos iM_images rM_fresher iM_fresherSize iM_scale iM_night rM_heardRow rM_cutRow iM_breaths iM_cutMany iM_allBreaths rM_trial rM_words iM_fewestBreaths iM_orderMany iM_orderSum iM_leastOrder rM_often iM_setMany iM_someOf iM_allOf iM_allWeight iM_enoughWeight iM_worthSum iM_firstRest iM_leastDrawn), (arI rM_tape kM_tape 900 fM_tape), (arI rM_letters kM_letters 8 f_6672), (arI rM_fresh kM_fresh 287 fM_fresh), (arI rM_read kM_read 90 fM_read), (arI rM_fresher kM_fresher 8 fM_fresher)]) hB rfl ht hP hD _ hMs hk1 hFc rfl
                clear hz1 hk1 hvm ht hB hMs
                rw [← hru9] at e_x_6664_5
                obtain ⟨x_6673, rfl⟩ : ∃ z, z = r := ⟨_, rfl⟩
                have hG := hG.trans (un10_eq e_x_6664_5)
                have bx_6673 := hw.1
                have dx_6673 := bz_tb bx_6673
                have lx_6673 := hw.2
                clear e_x_6647_1
                clear e_x_6647_4
                refine lv_if_eq (tgt := 208) hx hb dX7_readLine_198 (by decide) (fun c_6674 => ?_) (fun c_6674 => ?_)
                · skip
                  have hG := hG.trans (if_pos c_6674)
                  have gc_6674 := ti_eq c_6674 rfl kc_0
                  clear e_x_6664_3
                  refine lv_aload_n hx hb dX7_readLine_208 rfl (lv_at hl 0 rfl) ?_
                  obtain ⟨sa_6675, vsa_6675, nsa_6675, fsa_6675, hnsa_6675, hnesa_6675, hfesa_6675, hRsa_6675, hSsa_6675⟩ := hE.2.2.1 (148, "said", [115, 97, 105, 100]) (by decide)
                  have hG := hG.trans (lt_eq hnesa_6675)
                  have hG := hG.trans (lt_eq hfesa_6675)
                  refine va_ldcS hx hb hown hRsa_6675 dX7_readLine_209 ?_
                  have hMs := ml_of hD [true, false, true, false, false, false] (wc := [(oc7 oM iM_thrown rM_tape iM_taped iM_size x_6664 x_6665 x_6666 x_6667 x_6668 x_6669 x_6670 iM_trouble rM_letters x_6671 iM_hasCourt rM_r rM_fresh rM_told rM_read rM_st rM_undone rM_kept iM_undos iM_images rM_fresher iM_fresherSize iM_scale iM_night rM_heardRow rM_cutRow iM_breaths iM_cutMany iM_allBreaths rM_trial rM_words iM_fewestBreaths iM_orderMany iM_orderSum iM_leastOrder rM_often iM_setMany iM_someOf iM_allOf iM_allWeight iM_enoughWeight iM_worthSum iM_firstRest iM_leastDrawn), (arI rM_letters kM_letters 8 f_6672)]) rfl
                  have hFc := va_freeM hD hS hA _ hMs
                  refine va_calli (va_runV (As := [.ref sa_6675]) (rest := []) ⟨hx, hb, hml, hown, hts⟩ (tX7_isWord l dC dI _ oM iM_thrown rM_tape iM_taped iM_size x_6664 x_6665 x_6666 x_6667 x_6668 x_6669 x_6670 iM_trouble rM_letters f_6672 kM_letters x_6671 iM_hasCourt rM_r rM_fresh rM_told rM_read rM_st rM_undone rM_kept iM_undos iM_images rM_fresher iM_fresherSize iM_scale iM_night rM_heardRow rM_cutRow iM_breaths iM_cutMany iM_allBreaths rM_trial rM_words iM_fewestBreaths iM_orderMany iM_orderSum iM_leastOrder rM_often iM_setMany iM_someOf iM_allOf iM_allWeight iM_enoughWeight iM_worthSum iM_firstRest iM_leastDrawn sa_6675 vsa_6675 nsa_6675 fsa_6675 b_iM_taped b_iM_size b_x_6665 b_x_6668 b_x_6671 b_iM_hasCourt b_iM_undos b_iM_images b_iM_scale b_iM_breaths b_iM_cutMany e_x_6664_1 (Nat.le_trans (Nat.le_of_eq hnesa_6675) (by decide))) (cwV 1 hts (wd_V wd_420 wd_421 wd_422 wd_5 (wd_c wd_423)) rfl rfl rfl dv_yX7_isWord_1 ⟨Nat.le_of_ble_eq_true rfl, Nat.le_of_ble_eq_true rfl⟩) ⟨Pq.fb, recvX7 hK hP (q0 := 0) rfl, fun U hU hW => Pq.to (hP.ms _ hMs) (hD.ms _ hMs) (hK.ms [false, true, false, false, false] rfl) hSsa_6675 hE hS hFc hU hW⟩ rfl rfl hl.1 rfl (lv_room (Nat.le_of_ble_eq_true rfl)) dX7_readLine_211 ⟨Nat.le_of_ble_eq_true rfl, Nat.le_of_ble_eq_true rfl⟩) hS (fun q _ h => hFc q h) hFc (fun r u t H locs ht hvm hw hB hz1 hk1 hS => ?_)
                  have hru9 := hw.2
                  have hw := hw.1
                  obtain ⟨hP, hD⟩ := Bw.goN (ws' := [(oc7 oM iM_thrown rM_tape iM_taped iM_size x_6664 x_6665 x_6666 x_6667 x_6668 x_6669 x_6670 iM_trouble rM_letters x_6671 iM_hasCourt rM_r rM_fresh rM_told rM_read rM_st rM_undone rM_kept iM_undos iM_images rM_fresher iM_fresherSize iM_scale iM_night rM_heardRow rM_cutRow iM_breaths iM_cutMany iM_allBreaths rM_trial rM_words iM_fewestBreaths iM_orderMany iM_orderSum iM_leastOrder rM_often iM_setMany iM_someOf iM_allOf iM_allWeight iM_enoughWeight iM_worthSum iM_firstRest iM_leastDrawn), (arI rM_tape kM_tape 900 fM_tape), (arI rM_letters kM_letters 8 f_6672), (arI rM_fresh kM_fresh 287 fM_fresh), (arI rM_read kM_read 90 fM_read), (arI rM_fresher kM_fresher 8 fM_fresher)]) hB rfl ht hP hD _ hMs hk1 hFc rfl
                  clear hz1 hk1 hvm ht hB hMs
                  obtain ⟨x_6676, rfl⟩ : ∃ z, z = r := ⟨_, rfl⟩
                  have hG := hG.trans (lt_eq hru9.symm)
                  have bx_6676 := hw.1
                  have dx_6676 := bz_tb bx_6676
                  have lx_6676 := hw.2
                  refine lv_if_eq (tgt := 224) hx hb dX7_readLine_214 (by decide) (fun c_6677 => ?_) (fun c_6677 => ?_)
                  · skip
                    have hG := hG.trans (if_pos c_6677)
                    have gc_6677 := ti_eq c_6677 rfl kc_0
                    clear lx_6676
                    refine lv_aload_n hx hb dX7_readLine_224 rfl (lv_at hl 0 rfl) ?_
                    refine lv_iconst (v := 1) hx hb dX7_readLine_225 (by decide) ?_
                    refine lv_aload_n hx hb dX7_readLine_226 rfl (lv_at hl 0 rfl) ?_
                    refine va_get (D := (dC, dI)) (ci := 7) (v := .int x_6664) (C := RX7) (T := TX7) (N := 48) hx hb hts inX7 hown hK hP 0 rfl rfl 4 (by decide) (hts _ wd_384) (fun _ h9 => h9) rfl dX7_readLine_227 ?_
                    have hMs := ml_of hD [true, false, false, false, false, false] (wc := [(oc7 oM iM_thrown rM_tape iM_taped iM_size x_6664 x_6665 x_6666 x_6667 x_6668 x_6669 x_6670 iM_trouble rM_letters x_6671 iM_hasCourt rM_r rM_fresh rM_told rM_read rM_st rM_undone rM_kept iM_undos iM_images rM_fresher iM_fresherSize iM_scale iM_night rM_heardRow rM_cutRow iM_breaths iM_cutMany iM_allBreaths rM_trial rM_words iM_fewestBreaths iM_orderMany iM_orderSum iM_leastOrder rM_often iM_setMany iM_someOf iM_allOf iM_allWeight iM_enoughWeight iM_worthSum iM_firstRest iM_leastDrawn)]) rfl
                    have hFc := va_freeM hD hS hA _ hMs
                    refine va_callv (va_runV (As := [.int 1, .int x_6664]) (rest := []) ⟨hx, hb, hml, hown, hts⟩ (tX7_wrong l dC dI _ oM iM_thrown rM_tape iM_taped iM_size x_6664 x_6665 x_6666 x_6667 x_6668 x_6669 x_6670 iM_trouble rM_letters x_6671 iM_hasCourt rM_r rM_fresh rM_told rM_read rM_st rM_undone rM_kept iM_undos iM_images rM_fresher iM_fresherSize iM_scale iM_night rM_heardRow rM_cutRow iM_breaths iM_cutMany iM_allBreaths rM_trial rM_words iM_fewestBreaths iM_orderMany iM_orderSum iM_leastOrder rM_often iM_setMany iM_someOf iM_allOf iM_allWeight iM_enoughWeight iM_worthSum iM_firstRest iM_leastDrawn 1 x_6664 b_iM_taped b_iM_size b_x_6665 b_x_6668 b_x_6671 b_iM_hasCourt b_iM_undos b_iM_images b_iM_scale b_iM_breaths b_iM_cutMany e_x_6664_1) (cwV 2 hts (wd_V wd_430 wd_431 wd_432 wd_5 (wd_c wd_433)) rfl rfl rfl dv_yX7_wrong_2 ⟨Nat.le_of_ble_eq_true rfl, Nat.le_of_ble_eq_true rfl⟩) ⟨Pw.fb, recvX7 hK hP (q0 := 0) rfl, fun U hU hW => Pw.to (hP.ms _ hMs) (hD.ms _ hMs) (hK.ms [false, false, false, false, false] rfl) hE hS hFc hU hW⟩ rfl rfl hl.1 rfl (lv_room (Nat.le_of_ble_eq_true rfl)) dX7_readLine_230 ⟨Nat.le_of_ble_eq_true rfl, Nat.le_of_ble_eq_true rfl⟩) hS (fun q _ h => hFc q h) hFc (fun u t H locs ht hvm hw hB hz1 hk1 hS => ?_)
                    refine ex_3_3 hB (fun x_6678 x_6679 x_6680 b_x_6680 e_x_6678_0 e_x_6678_1 hB => ?_)
                    obtain ⟨hP, hD⟩ := Bw.goN (ws' := [(oc7 oM iM_thrown rM_tape iM_taped iM_size x_6664 x_6665 x_6666 x_6667 x_6668 x_6678 x_6679 iM_trouble rM_letters x_6680 iM_hasCourt rM_r rM_fresh rM_told rM_read rM_st rM_undone rM_kept iM_undos iM_images rM_fresher iM_fresherSize iM_scale iM_night rM_heardRow rM_cutRow iM_breaths iM_cutMany iM_allBreaths rM_trial rM_words iM_fewestBreaths iM_orderMany iM_orderSum iM_leastOrder rM_often iM_setMany iM_someOf iM_allOf iM_allWeight iM_enoughWeight iM_worthSum iM_firstRest iM_leastDrawn), (arI rM_tape kM_tape 900 fM_tape), (arI rM_letters kM_letters 8 f_6672), (arI rM_fresh kM_fresh 287 fM_fresh), (arI rM_read kM_read 90 fM_read), (arI rM_fresher kM_fresher 8 fM_fresher)]) hB rfl ht hP hD _ hMs hk1 hFc rfl
                    clear hz1 hk1 hvm ht hB hMs
                    have hG := hG.trans (un3_eq e_x_6678_1)
                    exact wq_v hx hb hr 0 trivial (fun t ht hW => ⟨x_6664, x_6665, x_6666, x_6667, x_6668, x_6678, x_6679, x_6680, iM_fresherSize, f_6672, fM_fresh, fM_read, fM_fresher, b_x_6665, b_x_6668, b_x_6680, (om_dcd74bf2 e_x_6605_0 e_x_6619_0 e_x_6633_0 e_x_6647_0 e_x_6664_0), e_x_6664_1, (om_00f1c5dd b_iM_failed.2 e_x_6678_0), (fun h9 => False.elim (om_92495247 e_x_6678_0 h9.1)), r_P, hG, Bw.to hP hD hK ht hW⟩) hS dX7_readLine_233 hlocks
                  · skip
                    have hG := hG.trans (if_neg c_6677)
                    have gc_6677 := ti_ne c_6677 rfl kc_0
                    replace gc_6677 : (-1) * x_6676.toInt + 1 ≤ 0 := om_e3003f79 gc_6677 dx_6676.1
                    have h_6681 : x_6666.toInt = 2 := lx_6676 (om_7907a7c1 dx_6676.2 gc_6677)
                    clear lx_6676
                    have h_6682 : x_6668.toInt ≤ 8 := e_x_6664_1 h_6681
                    clear e_x_6664_1
                    refine lv_aload_n hx hb dX7_readLine_217 rfl (lv_at hl 0 rfl) ?_
                    have hMs := ml_of hD [true, true, true, true, true, false] (wc := [(oc7 oM iM_thrown rM_tape iM_taped iM_size x_6664 x_6665 x_6666 x_6667 x_6668 x_6669 x_6670 iM_trouble rM_letters x_6671 iM_hasCourt rM_r rM_fresh rM_told rM_read rM_st rM_undone rM_kept iM_undos iM_images rM_fresher iM_fresherSize iM_scale iM_night rM_heardRow rM_cutRow iM_breaths iM_cutMany iM_allBreaths rM_trial rM_words iM_fewestBreaths iM_orderMany iM_orderSum iM_leastOrder rM_often iM_setMany iM_someOf iM_allOf iM_allWeight iM_enoughWeight iM_worthSum iM_firstRest iM_leastDrawn), (arI rM_tape kM_tape 900 fM_tape), (arI rM_letters kM_letters 8 f_6672), (arI rM_fresh kM_fresh 287 fM_fresh), (arI rM_read kM_read 90 fM_read)]) rfl
                    have hFc := va_freeM hD hS hA _ hMs
                    refine va_callv (va_runV (As := []) (rest := []) ⟨hx, hb, hml, hown, hts⟩ (tX7_saidLine l dC dI _ oM iM_thrown rM_tape fM_tape kM_tape iM_taped iM_size x_6664 x_6665 x_6666 x_6667 x_6668 x_6669 x_6670 iM_trouble rM_letters f_6672 kM_letters x_6671 iM_hasCourt rM_r rM_fresh fM_fresh kM_fresh rM_told rM_read fM_read kM_read rM_st rM_undone rM_kept iM_undos iM_images rM_fresher iM_fresherSize iM_scale iM_night rM_heardRow rM_cutRow iM_breaths iM_cutMany iM_allBreaths rM_trial rM_words iM_fewestBreaths iM_orderMany iM_orderSum iM_leastOrder rM_often iM_setMany iM_someOf iM_allOf iM_allWeight iM_enoughWeight iM_worthSum iM_firstRest iM_leastDrawn b_iM_taped b_iM_size b_x_6665 b_x_6668 b_x_6671 b_iM_hasCourt b_iM_undos b_iM_images b_iM_scale b_iM_breaths b_iM_cutMany (fun h9 => h_6682) r_P) (cwV 0 hts (wd_V wd_498 wd_499 wd_500 wd_5 (wd_c wd_501)) rfl rfl rfl dv_yX7_saidLine_0 ⟨Nat.le_of_ble_eq_true rfl, Nat.le_of_ble_eq_true rfl⟩) ⟨Pw.fb, recvX7 hK hP (q0 := 0) rfl, fun U hU hW => Pw.to (hP.ms _ hMs) (hD.ms _ hMs) (hK.ms [true, true, true, true, false] rfl) hE hS hFc hU hW⟩ rfl rfl hl.1 rfl (lv_room (Nat.le_of_ble_eq_true rfl)) dX7_readLine_218 ⟨Nat.le_of_ble_eq_true rfl, Nat.le_of_ble_eq_true rfl⟩) hS (fun q _ h => hFc q h) hFc (fun u t H locs ht hvm hw hB hz1 hk1 hS => ?_)
                    refine ex_10_9 hB (fun x_6683 x_6684 x_6685 x_6686 x_6687 x_6688 x_6689 x_6690 f_6691 f_6692 b_x_6684 b_x_6687 b_x_6690 e_x_6683_0 e_x_6683_1 e_x_6683_2 e_x_6683_3 e_x_6683_4 e_x_6683_5 hB => ?_)
                    obtain ⟨hP, hD⟩ := Bw.goN (ws' := [(oc7 oM iM_thrown rM_tape iM_taped iM_size x_6683 x_6684 x_6685 x_6686 x_6687 x_6688 x_6689 iM_trouble rM_letters x_6690 iM_hasCourt rM_r rM_fresh rM_told rM_read rM_st rM_undone rM_kept iM_undos iM_images rM_fresher iM_fresherSize iM_scale iM_night rM_heardRow rM_cutRow iM_breaths iM_cutMany iM_allBreaths rM_trial rM_words iM_fewestBreaths iM_orderMany iM_orderSum iM_leastOrder rM_often iM_setMany iM_someOf iM_allOf iM_allWeight iM_enoughWeight iM_worthSum iM_firstRest iM_leastDrawn), (arI rM_tape kM_tape 900 fM_tape), (arI rM_letters kM_letters 8 f_6691), (arI rM_fresh kM_fresh 287 f_6692), (arI rM_read kM_read 90 fM_read), (arI rM_fresher kM_fresher 8 fM_fresher)]) hB rfl ht hP hD _ hMs hk1 hFc rfl
                    clear hz1 hk1 hvm ht hB hMs
                    have pl_f_6692 := e_x_6683_4.lins
                    have hG := hG.trans (un10_eq e_x_6683_5)
                    clear e_x_6664_4
                    refine lv_goto (tgt := 233) hx hb dX7_readLine_221 (by decide) ?_
                    exact wq_v hx hb hr 0 trivial (fun t ht hW => ⟨x_6683, x_6684, x_6685, x_6686, x_6687, x_6688, x_6689, x_6690, iM_fresherSize, f_6691, f_6692, fM_read, fM_fresher, b_x_6684, b_x_6687, b_x_6690, (om_ac7239fc e_x_6605_0 e_x_6619_0 e_x_6633_0 e_x_6647_0 e_x_6664_0 e_x_6683_0), e_x_6683_1, (om_ac7239fc e_x_6605_2 e_x_6619_2 e_x_6633_2 e_x_6647_2 e_x_6664_2 e_x_6683_2), (fun h9 => (om_ab9846f4 e_x_6605_0 e_x_6619_0 e_x_6633_0 e_x_6647_0 e_x_6664_0 (e_x_6683_3 ⟨h9.1, h9.2⟩))), e_x_6683_4, hG, Bw.to hP hD hK ht hW⟩) hS dX7_readLine_233 hlocks
                · skip
                  have hG := hG.trans (if_neg c_6674)
                  have gc_6674 := ti_ne c_6674 rfl kc_0
                  replace gc_6674 : (-1) * x_6673.toInt + 1 ≤ 0 := om_e3003f79 gc_6674 dx_6673.1
                  have h_6693 := e_x_6664_3 (by omega)
                  clear e_x_6664_3
                  refine lv_aload_n hx hb dX7_readLine_201 rfl (lv_at hl 0 rfl) ?_
                  have hMs := ml_of hD [true, true, true, true, true, false] (wc := [(oc7 oM iM_thrown rM_tape iM_taped iM_size x_6664 x_6665 x_6666 x_6667 x_6668 x_6669 x_6670 iM_trouble rM_letters x_6671 iM_hasCourt rM_r rM_fresh rM_told rM_read rM_st rM_undone rM_kept iM_undos iM_images rM_fresher iM_fresherSize iM_scale iM_night rM_heardRow rM_cutRow iM_breaths iM_cutMany iM_allBreaths rM_trial rM_words iM_fewestBreaths iM_orderMany iM_orderSum iM_leastOrder rM_often iM_setMany iM_someOf iM_allOf iM_allWeight iM_enoughWeight iM_worthSum iM_firstRest iM_leastDrawn), (arI rM_tape kM_tape 900 fM_tape), (arI rM_letters kM_letters 8 f_6672), (arI rM_fresh kM_fresh 287 fM_fresh), (arI rM_read kM_read 90 fM_read)]) rfl
                  have hFc := va_freeM hD hS hA _ hMs
                  refine va_callv (va_runV (As := []) (rest := []) ⟨hx, hb, hml, hown, hts⟩ (tX7_unsureLine l dC dI _ oM iM_thrown rM_tape fM_tape kM_tape iM_taped iM_size x_6664 x_6665 x_6666 x_6667 x_6668 x_6669 x_6670 iM_trouble rM_letters f_6672 kM_letters x_6671 iM_hasCourt rM_r rM_fresh fM_fresh kM_fresh rM_told rM_read fM_read kM_read rM_st rM_undone rM_kept iM_undos iM_images rM_fresher iM_fresherSize iM_scale iM_night rM_heardRow rM_cutRow iM_breaths iM_cutMany iM_allBreaths rM_trial rM_words iM_fewestBreaths iM_orderMany iM_orderSum iM_leastOrder rM_often iM_setMany iM_someOf iM_allOf iM_allWeight iM_enoughWeight iM_worthSum iM_firstRest iM_leastDrawn b_iM_taped b_iM_size b_x_6665 b_x_6668 b_x_6671 b_iM_hasCourt b_iM_undos b_iM_images b_iM_scale b_iM_breaths b_iM_cutMany e_x_6664_1 r_P (by intro h9; have q0 := kc_0; have q1 := kc_1; have q2 := kc_2; have q3 := kc_3; omega)) (cwV 0 hts (wd_V wd_494 wd_495 wd_496 wd_5 (wd_c wd_497)) rfl rfl rfl dv_yX7_unsureLine_0 ⟨Nat.le_of_ble_eq_true rfl, Nat.le_of_ble_eq_true rfl⟩) ⟨Pw.fb, recvX7 hK hP (q0 := 0) rfl, fun U hU hW => Pw.to (hP.ms _ hMs) (hD.ms _ hMs) (hK.ms [true, true, true, true, false] rfl) hE hS hFc hU hW⟩ rfl rfl hl.1 rfl (lv_room (Nat.le_of_ble_eq_true rfl)) dX7_readLine_202 ⟨Nat.le_of_ble_eq_true rfl, Nat.le_of_ble_eq_true rfl⟩) hS (fun q _ h => hFc q h) hFc (fun u t H locs ht hvm hw hB hz1 hk1 hS => ?_)
                  refine ex_10_9 hB (fun x_6694 x_6695 x_6696 x_6697 x_6698 x_6699 x_6700 x_6701 f_6702 f_6703 b_x_6695 b_x_6698 b_x_6701 e_x_6694_0 e_x_6694_1 e_x_6694_2 e_x_6694_3 e_x_6694_4 e_x_6694_5 hB => ?_)
                  obtain ⟨hP, hD⟩ := Bw.goN (ws' := [(oc7 oM iM_thrown rM_tape iM_taped iM_size x_6694 x_6695 x_6696 x_6697 x_6698 x_6699 x_6700 iM_trouble rM_letters x_6701 iM_hasCourt rM_r rM_fresh rM_told rM_read rM_st rM_undone rM_kept iM_undos iM_images rM_fresher iM_fresherSize iM_scale iM_night rM_heardRow rM_cutRow iM_breaths iM_cutMany iM_allBreaths rM_trial rM_words iM_fewestBreaths iM_orderMany iM_orderSum iM_leastOrder rM_often iM_setMany iM_someOf iM_allOf iM_allWeight iM_enoughWeight iM_worthSum iM_firstRest iM_leastDrawn), (arI rM_tape kM_tape 900 fM_tape), (arI rM_letters kM_letters 8 f_6702), (arI rM_fresh kM_fresh 287 f_6703), (arI rM_read kM_read 90 fM_read), (arI rM_fresher kM_fresher 8 fM_fresher)]) hB rfl ht hP hD _ hMs hk1 hFc rfl
                  clear hz1 hk1 hvm ht hB hMs
                  have pl_f_6703 := e_x_6694_4.lins
                  have hG := hG.trans (un10_eq e_x_6694_5)
                  clear e_x_6664_1
                  clear e_x_6664_4
                  refine lv_goto (tgt := 233) hx hb dX7_readLine_205 (by decide) ?_
                  exact wq_v hx hb hr 0 trivial (fun t ht hW => ⟨x_6694, x_6695, x_6696, x_6697, x_6698, x_6699, x_6700, x_6701, iM_fresherSize, f_6702, f_6703, fM_read, fM_fresher, b_x_6695, b_x_6698, b_x_6701, (om_ac7239fc e_x_6605_0 e_x_6619_0 e_x_6633_0 e_x_6647_0 e_x_6664_0 e_x_6694_0), e_x_6694_1, (om_ac7239fc e_x_6605_2 e_x_6619_2 e_x_6633_2 e_x_6647_2 e_x_6664_2 e_x_6694_2), (fun h9 => (om_ab9846f4 e_x_6605_0 e_x_6619_0 e_x_6633_0 e_x_6647_0 e_x_6664_0 (e_x_6694_3 ⟨h9.1, h9.2⟩))), e_x_6694_4, hG, Bw.to hP hD hK ht hW⟩) hS dX7_readLine_233 hlocks
              · skip
                have hG := hG.trans (if_neg c_6660)
                have gc_6660 := ti_ne c_6660 rfl kc_0
                replace gc_6660 : (-1) * x_6659.toInt + 1 ≤ 0 := om_e3003f79 gc_6660 dx_6659.1
                have h_6704 : x_6649.toInt = 2 := lx_6659 (om_7907a7c1 dx_6659.2 gc_6660)
                clear lx_6659
                have h_6705 : x_6651.toInt ≤ 8 := e_x_6647_1 h_6704
                clear e_x_6647_1
                refine lv_aload_n hx hb dX7_readLine_170 rfl (lv_at hl 0 rfl) ?_
                have hMs := ml_of hD [true, true, true, true, true, false] (wc := [(oc7 oM iM_thrown rM_tape iM_taped iM_size x_6647 x_6648 x_6649 x_6650 x_6651 x_6652 x_6653 iM_trouble rM_letters x_6654 iM_hasCourt rM_r rM_fresh rM_told rM_read rM_st rM_undone rM_kept iM_undos iM_images rM_fresher iM_fresherSize iM_scale iM_night rM_heardRow rM_cutRow iM_breaths iM_cutMany iM_allBreaths rM_trial rM_words iM_fewestBreaths iM_orderMany iM_orderSum iM_leastOrder rM_often iM_setMany iM_someOf iM_allOf iM_allWeight iM_enoughWeight iM_worthSum iM_firstRest iM_leastDrawn), (arI rM_tape kM_tape 900 fM_tape), (arI rM_letters kM_letters 8 f_6655), (arI rM_fresh kM_fresh 287 fM_fresh), (arI rM_read kM_read 90 fM_read)]) rfl
                have hFc := va_freeM hD hS hA _ hMs
                refine va_callv (va_runV (As := []) (rest := []) ⟨hx, hb, hml, hown, hts⟩ (tX7_throneLine l dC dI _ oM iM_thrown rM_tape fM_tape kM_tape iM_taped iM_size x_6647 x_6648 x_6649 x_6650 x_6651 x_6652 x_6653 iM_trouble rM_letters f_6655 kM_letters x_6654 iM_hasCourt rM_r rM_fresh fM_fresh kM_fresh rM_told rM_read fM_read kM_read rM_st rM_undone rM_kept iM_undos iM_images rM_fresher iM_fresherSize iM_scale iM_night rM_heardRow rM_cutRow iM_breaths iM_cutMany iM_allBreaths rM_trial rM_words iM_fewestBreaths iM_orderMany iM_orderSum iM_leastOrder rM_often iM_setMany iM_someOf iM_allOf iM_allWeight iM_enoughWeight iM_worthSum iM_firstRest iM_leastDrawn b_iM_taped b_iM_size b_x_6648 b_x_6651 b_x_6654 b_iM_hasCourt b_iM_undos b_iM_images b_iM_scale b_iM_breaths b_iM_cutMany (fun h9 => h_6705) r_P) (cwV 0 hts (wd_V wd_490 wd_491 wd_492 wd_5 (wd_c wd_493)) rfl rfl rfl dv_yX7_throneLine_0 ⟨Nat.le_of_ble_eq_true rfl, Nat.le_of_ble_eq_true rfl⟩) ⟨Pw.fb, recvX7 hK hP (q0 := 0) rfl, fun U hU hW => Pw.to (hP.ms _ hMs) (hD.ms _ hMs) (hK.ms [true, true, true, true, false] rfl) hE hS hFc hU hW⟩ rfl rfl hl.1 rfl (lv_room (Nat.le_of_ble_eq_true rfl)) dX7_readLine_171 ⟨Nat.le_of_ble_eq_true rfl, Nat.le_of_ble_eq_true rfl⟩) hS (fun q _ h => hFc q h) hFc (fun u t H locs ht hvm hw hB hz1 hk1 hS => ?_)
                refine ex_10_9 hB (fun x_6706 x_6707 x_6708 x_6709 x_6710 x_6711 x_6712 x_6713 f_6714 f_6715 b_x_6707 b_x_6710 b_x_6713 e_x_6706_0 e_x_6706_1 e_x_6706_2 e_x_6706_3 e_x_6706_4 e_x_6706_5 hB => ?_)
                obtain ⟨hP, hD⟩ := Bw.goN (ws' := [(oc7 oM iM_thrown rM_tape iM_taped iM_size x_6706 x_6707 x_6708 x_6709 x_6710 x_6711 x_6712 iM_trouble rM_letters x_6713 iM_hasCourt rM_r rM_fresh rM_told rM_read rM_st rM_undone rM_kept iM_undos iM_images rM_fresher iM_fresherSize iM_scale iM_night rM_heardRow rM_cutRow iM_breaths iM_cutMany iM_allBreaths rM_trial rM_words iM_fewestBreaths iM_orderMany iM_orderSum iM_leastOrder rM_often iM_setMany iM_someOf iM_allOf iM_allWeight iM_enoughWeight iM_worthSum iM_firstRest iM_leastDrawn), (arI rM_tape kM_tape 900 fM_tape), (arI rM_letters kM_letters 8 f_6714), (arI rM_fresh kM_fresh 287 f_6715), (arI rM_read kM_read 90 fM_read), (arI rM_fresher kM_fresher 8 fM_fresher)]) hB rfl ht hP hD _ hMs hk1 hFc rfl
                clear hz1 hk1 hvm ht hB hMs
                have pl_f_6715 := e_x_6706_4.lins
                have hG := hG.trans (un10_eq e_x_6706_5)
                clear e_x_6647_4
                refine lv_goto (tgt := 233) hx hb dX7_readLine_174 (by decide) ?_
                exact wq_v hx hb hr 0 trivial (fun t ht hW => ⟨x_6706, x_6707, x_6708, x_6709, x_6710, x_6711, x_6712, x_6713, iM_fresherSize, f_6714, f_6715, fM_read, fM_fresher, b_x_6707, b_x_6710, b_x_6713, (om_dcd74bf2 e_x_6605_0 e_x_6619_0 e_x_6633_0 e_x_6647_0 e_x_6706_0), e_x_6706_1, (om_dcd74bf2 e_x_6605_2 e_x_6619_2 e_x_6633_2 e_x_6647_2 e_x_6706_2), (fun h9 => (om_cad042f1 e_x_6605_0 e_x_6619_0 e_x_6633_0 e_x_6647_0 (e_x_6706_3 ⟨h9.1, h9.2⟩))), e_x_6706_4, hG, Bw.to hP hD hK ht hW⟩) hS dX7_readLine_233 hlocks
            · skip
              have hG := hG.trans (if_neg c_6657)
              have gc_6657 := ti_ne c_6657 rfl kc_0
              replace gc_6657 : (-1) * x_6656.toInt + 1 ≤ 0 := om_e3003f79 gc_6657 dx_6656.1
              have h_6716 := e_x_6647_3 (by omega)
              clear e_x_6647_3
              refine lv_aload_n hx hb dX7_readLine_153 rfl (lv_at hl 0 rfl) ?_
              refine lv_iconst (v := 3) hx hb dX7_readLine_154 (by decide) ?_
              have hFc := va_freeI hD hS hA
              refine va_callv (va_runV (As := [.int 3]) (rest := []) ⟨hx, hb, hml, hown, hts⟩ (tX7_innerLine l dC dI _ oM iM_thrown rM_tape fM_tape kM_tape iM_taped iM_size x_6647 x_6648 x_6649 x_6650 x_6651 x_6652 x_6653 iM_trouble rM_letters f_6655 kM_letters x_6654 iM_hasCourt rM_r rM_fresh fM_fresh kM_fresh rM_told rM_read fM_read kM_read rM_st rM_undone rM_kept iM_undos iM_images rM_fresher fM_fresher kM_fresher iM_fresherSize iM_scale iM_night rM_heardRow rM_cutRow iM_breaths iM_cutMany iM_allBreaths rM_trial rM_words iM_fewestBreaths iM_orderMany iM_orderSum iM_leastOrder rM_often iM_setMany iM_someOf iM_allOf iM_allWeight iM_enoughWeight iM_worthSum iM_firstRest iM_leastDrawn 3 b_iM_taped b_iM_size b_x_6648 b_x_6651 b_x_6654 b_iM_hasCourt b_iM_undos b_iM_images b_iM_scale b_iM_breaths b_iM_cutMany e_x_6647_1 r_P ⟨(om_bf54f653 kc_3), (om_6eb7c803 kc_3)⟩ (by intro h9; have q0 := kc_0; have q1 := kc_1; have q2 := kc_2; have q3 := kc_3; omega) (by intro h9; have q0 := kc_0; have q1 := kc_1; have q2 := kc_2; have q3 := kc_3; omega)) (cwV 1 hts (wd_V wd_482 wd_483 wd_484 wd_5 (wd_c wd_485)) rfl rfl rfl dv_yX7_innerLine_1 ⟨Nat.le_of_ble_eq_true rfl, Nat.le_of_ble_eq_true rfl⟩) ⟨Pw.fb, recvX7 hK hP (q0 := 0) rfl, fun U hU hW => Pw.to hP hD hK hE hS hFc hU hW⟩ rfl rfl hl.1 rfl (lv_room (Nat.le_of_ble_eq_true rfl)) dX7_readLine_155 ⟨Nat.le_of_ble_eq_true rfl, Nat.le_of_ble_eq_true rfl⟩) hS (fun q _ h => hFc q h) hFc (fun u t H locs ht hvm hw hB hz1 hk1 hS => ?_)
              refine ex_13_9 hB (fun x_6717 x_6718 x_6719 x_6720 x_6721 x_6722 x_6723 x_6724 x_6725 f_6726 f_6727 f_6728 f_6729 b_x_6718 b_x_6721 b_x_6724 e_x_6717_0 e_x_6717_1 e_x_6717_2 e_x_6717_3 e_x_6717_4 e_x_6717_5 hB => ?_)
              obtain ⟨hP, hD⟩ := Bw.goA (ws' := [(oc7 oM iM_thrown rM_tape iM_taped iM_size x_6717 x_6718 x_6719 x_6720 x_6721 x_6722 x_6723 iM_trouble rM_letters x_6724 iM_hasCourt rM_r rM_fresh rM_told rM_read rM_st rM_undone rM_kept iM_undos iM_images rM_fresher x_6725 iM_scale iM_night rM_heardRow rM_cutRow iM_breaths iM_cutMany iM_allBreaths rM_trial rM_words iM_fewestBreaths iM_orderMany iM_orderSum iM_leastOrder rM_often iM_setMany iM_someOf iM_allOf iM_allWeight iM_enoughWeight iM_worthSum iM_firstRest iM_leastDrawn), (arI rM_tape kM_tape 900 fM_tape), (arI rM_letters kM_letters 8 f_6726), (arI rM_fresh kM_fresh 287 f_6727), (arI rM_read kM_read 90 f_6728), (arI rM_fresher kM_fresher 8 f_6729)]) hB rfl ht hFc rfl
              clear hz1 hk1 hvm ht hB
              have pl_f_6727 := e_x_6717_4.lins
              have hG := hG.trans (un13_eq e_x_6717_5)
              clear e_x_6647_1
              clear e_x_6647_4
              refine lv_goto (tgt := 233) hx hb dX7_readLine_158 (by decide) ?_
              exact wq_v hx hb hr 0 trivial (fun t ht hW => ⟨x_6717, x_6718, x_6719, x_6720, x_6721, x_6722, x_6723, x_6724, x_6725, f_6726, f_6727, f_6728, f_6729, b_x_6718, b_x_6721, b_x_6724, (om_dcd74bf2 e_x_6605_0 e_x_6619_0 e_x_6633_0 e_x_6647_0 e_x_6717_0), e_x_6717_1, (om_dcd74bf2 e_x_6605_2 e_x_6619_2 e_x_6633_2 e_x_6647_2 e_x_6717_2), (fun h9 => (om_cad042f1 e_x_6605_0 e_x_6619_0 e_x_6633_0 e_x_6647_0 (e_x_6717_3 ⟨h9.1, h9.2⟩))), e_x_6717_4, hG, Bw.to hP hD hK ht hW⟩) hS dX7_readLine_233 hlocks
          · skip
            have hG := hG.trans (if_neg c_6646)
            have gc_6646 := ti_nle c_6646 kc_8 rfl
            refine lv_aload_n hx hb dX7_readLine_131 rfl (lv_at hl 0 rfl) ?_
            refine va_get (D := (dC, dI)) (ci := 7) (v := .ref rM_fresh) (C := RX7) (T := TX7) (N := 48) hx hb hts inX7 hown hK hP 0 rfl rfl 16 (by decide) (hts _ wd_156) (fun _ h9 => h9) rfl dX7_readLine_132 ?_
            refine lv_bipush (v := 8) hx hb dX7_readLine_135 (by decide) ?_
            refine va_iald hx hb hK hP 3 2 rfl rfl (by unfold vp_in; decide) dX7_readLine_137 ?_
            refine lv_topi (fun x_6730 ex_6730 => ?_)
            have hG := hG.trans (lt_eq ex_6730)
            have cx_6730 : (fM_fresh 8).toInt = x_6730.toInt := congrArg Int32.toInt (show fM_fresh 8 = x_6730 from ex_6730.symm)
            refine lv_iconst (v := 2) hx hb dX7_readLine_138 (by decide) ?_
            refine vz_jgeX hx hb dX7_readLine_139 dX7_readLine_142 dX7_readLine_143 dX7_readLine_146 (fun x_6731 ex_6731 b_x_6731 j_x_6731 => ?_)
            have hG := hG.trans (lt_eq ex_6731)
            have j_x_6731 : 1 ≤ x_6731.toInt → x_6730.toInt < 2 := fun h9 => by have h8 := j_x_6731 h9; rw [kc_2] at h8; exact h8
            have hMs := ml_of hD [true, true, true, true, true, false] (wc := [(oc7 oM iM_thrown rM_tape iM_taped iM_size x_6633 x_6634 x_6635 x_6636 x_6637 x_6638 x_6639 iM_trouble rM_letters x_6640 iM_hasCourt rM_r rM_fresh rM_told rM_read rM_st rM_undone rM_kept iM_undos iM_images rM_fresher iM_fresherSize iM_scale iM_night rM_heardRow rM_cutRow iM_breaths iM_cutMany iM_allBreaths rM_trial rM_words iM_fewestBreaths iM_orderMany iM_orderSum iM_leastOrder rM_often iM_setMany iM_someOf iM_allOf iM_allWeight iM_enoughWeight iM_worthSum iM_firstRest iM_leastDrawn), (arI rM_tape kM_tape 900 fM_tape), (arI rM_letters kM_letters 8 f_6641), (arI rM_fresh kM_fresh 287 fM_fresh), (arI rM_read kM_read 90 fM_read)]) rfl
            have hFc := va_freeM hD hS hA _ hMs
            refine va_calli (va_runV (As := [.ref sa_6644, .int x_6731]) (rest := []) ⟨hx, hb, hml, hown, hts⟩ (tX7_begins l dC dI _ oM iM_thrown rM_tape fM_tape kM_tape iM_taped iM_size x_6633 x_6634 x_6635 x_6636 x_6637 x_6638 x_6639 iM_trouble rM_letters f_6641 kM_letters x_6640 iM_hasCourt rM_r rM_fresh fM_fresh kM_fresh rM_told rM_read fM_read kM_read rM_st rM_undone rM_kept iM_undos iM_images rM_fresher iM_fresherSize iM_scale iM_night rM_heardRow rM_cutRow iM_breaths iM_cutMany iM_allBreaths rM_trial rM_words iM_fewestBreaths iM_orderMany iM_orderSum iM_leastOrder rM_often iM_setMany iM_someOf iM_allOf iM_allWeight iM_enoughWeight iM_worthSum iM_firstRest iM_leastDrawn sa_6644 x_6731 vsa_6644 nsa_6644 fsa_6644 b_iM_taped b_iM_size b_x_6634 b_x_6637 b_x_6640 b_iM_hasCourt b_iM_undos b_iM_images b_iM_scale b_iM_breaths b_iM_cutMany e_x_6633_1 r_P (Nat.le_trans (Nat.le_of_eq hnesa_6644) (by decide)) (by first | assumption | (have q0 := kc_0; have q1 := kc_1; first | exact ⟨by omega, by omega⟩ | omega) | decide | (intro h; exact absurd h (by decide)))) (cwV 2 hts (wd_V wd_450 wd_451 wd_452 wd_5 (wd_c wd_453)) rfl rfl rfl dv_yX7_begins_2 ⟨Nat.le_of_ble_eq_true rfl, Nat.le_of_ble_eq_true rfl⟩) ⟨Pq.fb, recvX7 hK hP (q0 := 0) rfl, fun U hU hW => Pq.to (hP.ms _ hMs) (hD.ms _ hMs) (hK.ms [true, true, true, true, false] rfl) hSsa_6644 hE hS hFc hU hW⟩ rfl rfl hl.1 rfl (lv_room (Nat.le_of_ble_eq_true rfl)) dX7_readLine_147 ⟨Nat.le_of_ble_eq_true rfl, Nat.le_of_ble_eq_true rfl⟩) hS (fun q _ h => hFc q h) hFc (fun r u t H locs ht hvm hw hB hz1 hk1 hS => ?_)
            have hru9 := hw.2
            have hw := hw.1
            refine ex_9_9 hB (fun x_6732 x_6733 x_6734 x_6735 x_6736 x_6737 x_6738 x_6739 f_6740 b_x_6733 b_x_6736 b_x_6739 e_x_6732_0 e_x_6732_1 e_x_6732_2 e_x_6732_3 e_x_6732_4 e_x_6732_5 hB => ?_)
            obtain ⟨hP, hD⟩ := Bw.goN (ws' := [(oc7 oM iM_thrown rM_tape iM_taped iM_size x_6732 x_6733 x_6734 x_6735 x_6736 x_6737 x_6738 iM_trouble rM_letters x_6739 iM_hasCourt rM_r rM_fresh rM_told rM_read rM_st rM_undone rM_kept iM_undos iM_images rM_fresher iM_fresherSize iM_scale iM_night rM_heardRow rM_cutRow iM_breaths iM_cutMany iM_allBreaths rM_trial rM_words iM_fewestBreaths iM_orderMany iM_orderSum iM_leastOrder rM_often iM_setMany iM_someOf iM_allOf iM_allWeight iM_enoughWeight iM_worthSum iM_firstRest iM_leastDrawn), (arI rM_tape kM_tape 900 fM_tape), (arI rM_letters kM_letters 8 f_6740), (arI rM_fresh kM_fresh 287 fM_fresh), (arI rM_read kM_read 90 fM_read), (arI rM_fresher kM_fresher 8 fM_fresher)]) hB rfl ht hP hD _ hMs hk1 hFc rfl
            clear hz1 hk1 hvm ht hB hMs
            rw [← hru9] at e_x_6732_5
            obtain ⟨x_6741, rfl⟩ : ∃ z, z = r := ⟨_, rfl⟩
            have hG := hG.trans (un10_eq e_x_6732_5)
            have bx_6741 := hw.1
            have dx_6741 := bz_tb bx_6741
            have lx_6741 := hw.2
            clear e_x_6633_1
            clear e_x_6633_4
            refine lv_if_eq (tgt := 161) hx hb dX7_readLine_150 (by decide) (fun c_6742 => ?_) (fun c_6742 => ?_)
            · skip
              have hG := hG.trans (if_pos c_6742)
              have gc_6742 := ti_eq c_6742 rfl kc_0
              clear e_x_6732_3
              refine lv_aload_n hx hb dX7_readLine_161 rfl (lv_at hl 0 rfl) ?_
              obtain ⟨sa_6743, vsa_6743, nsa_6743, fsa_6743, hnsa_6743, hnesa_6743, hfesa_6743, hRsa_6743, hSsa_6743⟩ := hE.2.2.1 (144, "throne", [116, 104, 114, 111, 110, 101]) (by decide)
              have hG := hG.trans (lt_eq hnesa_6743)
              have hG := hG.trans (lt_eq hfesa_6743)
              refine va_ldcS hx hb hown hRsa_6743 dX7_readLine_162 ?_
              have hMs := ml_of hD [true, false, true, false, false, false] (wc := [(oc7 oM iM_thrown rM_tape iM_taped iM_size x_6732 x_6733 x_6734 x_6735 x_6736 x_6737 x_6738 iM_trouble rM_letters x_6739 iM_hasCourt rM_r rM_fresh rM_told rM_read rM_st rM_undone rM_kept iM_undos iM_images rM_fresher iM_fresherSize iM_scale iM_night rM_heardRow rM_cutRow iM_breaths iM_cutMany iM_allBreaths rM_trial rM_words iM_fewestBreaths iM_orderMany iM_orderSum iM_leastOrder rM_often iM_setMany iM_someOf iM_allOf iM_allWeight iM_enoughWeight iM_worthSum iM_firstRest iM_leastDrawn), (arI rM_letters kM_letters 8 f_6740)]) rfl
              have hFc := va_freeM hD hS hA _ hMs
              refine va_calli (va_runV (As := [.ref sa_6743]) (rest := []) ⟨hx, hb, hml, hown, hts⟩ (tX7_isWord l dC dI _ oM iM_thrown rM_tape iM_taped iM_size x_6732 x_6733 x_6734 x_6735 x_6736 x_6737 x_6738 iM_trouble rM_letters f_6740 kM_letters x_6739 iM_hasCourt rM_r rM_fresh rM_told rM_read rM_st rM_undone rM_kept iM_undos iM_images rM_fresher iM_fresherSize iM_scale iM_night rM_heardRow rM_cutRow iM_breaths iM_cutMany iM_allBreaths rM_trial rM_words iM_fewestBreaths iM_orderMany iM_orderSum iM_leastOrder rM_often iM_setMany iM_someOf iM_allOf iM_allWeight iM_enoughWeight iM_worthSum iM_firstRest iM_leastDrawn sa_6743 vsa_6743 nsa_6743 fsa_6743 b_iM_taped b_iM_size b_x_6733 b_x_6736 b_x_6739 b_iM_hasCourt b_iM_undos b_iM_images b_iM_scale b_iM_breaths b_iM_cutMany e_x_6732_1 (Nat.le_trans (Nat.le_of_eq hnesa_6743) (by decide))) (cwV 1 hts (wd_V wd_420 wd_421 wd_422 wd_5 (wd_c wd_423)) rfl rfl rfl dv_yX7_isWord_1 ⟨Nat.le_of_ble_eq_true rfl, Nat.le_of_ble_eq_true rfl⟩) ⟨Pq.fb, recvX7 hK hP (q0 := 0) rfl, fun U hU hW => Pq.to (hP.ms _ hMs) (hD.ms _ hMs) (hK.ms [false, true, false, false, false] rfl) hSsa_6743 hE hS hFc hU hW⟩ rfl rfl hl.1 rfl (lv_room (Nat.le_of_ble_eq_true rfl)) dX7_readLine_164 ⟨Nat.le_of_ble_eq_true rfl, Nat.le_of_ble_eq_true rfl⟩) hS (fun q _ h => hFc q h) hFc (fun r u t H locs ht hvm hw hB hz1 hk1 hS => ?_)
              have hru9 := hw.2
              have hw := hw.1
              obtain ⟨hP, hD⟩ := Bw.goN (ws' := [(oc7 oM iM_thrown rM_tape iM_taped iM_size x_6732 x_6733 x_6734 x_6735 x_6736 x_6737 x_6738 iM_trouble rM_letters x_6739 iM_hasCourt rM_r rM_fresh rM_told rM_read rM_st rM_undone rM_kept iM_undos iM_images rM_fresher iM_fresherSize iM_scale iM_night rM_heardRow rM_cutRow iM_breaths iM_cutMany iM_allBreaths rM_trial rM_words iM_fewestBreaths iM_orderMany iM_orderSum iM_leastOrder rM_often iM_setMany iM_someOf iM_allOf iM_allWeight iM_enoughWeight iM_worthSum iM_firstRest iM_leastDrawn), (arI rM_tape kM_tape 900 fM_tape), (arI rM_letters kM_letters 8 f_6740), (arI rM_fresh kM_fresh 287 fM_fresh), (arI rM_read kM_read 90 fM_read), (arI rM_fresher kM_fresher 8 fM_fresher)]) hB rfl ht hP hD _ hMs hk1 hFc rfl
              clear hz1 hk1 hvm ht hB hMs
              obtain ⟨x_6744, rfl⟩ : ∃ z, z = r := ⟨_, rfl⟩
              have hG := hG.trans (lt_eq hru9.symm)
              have bx_6744 := hw.1
              have dx_6744 := bz_tb bx_6744
              have lx_6744 := hw.2
              refine lv_if_eq (tgt := 177) hx hb dX7_readLine_167 (by decide) (fun c_6745 => ?_) (fun c_6745 => ?_)
              · skip
                have hG := hG.trans (if_pos c_6745)
                have gc_6745 := ti_eq c_6745 rfl kc_0
                clear lx_6744
                refine lv_aload_n hx hb dX7_readLine_177 rfl (lv_at hl 0 rfl) ?_
                obtain ⟨sa_6746, vsa_6746, nsa_6746, fsa_6746, hnsa_6746, hnesa_6746, hfesa_6746, hRsa_6746, hSsa_6746⟩ := hE.2.2.1 (146, "unsure", [117, 110, 115, 117, 114, 101]) (by decide)
                have hG := hG.trans (lt_eq hnesa_6746)
                have hG := hG.trans (lt_eq hfesa_6746)
                refine va_ldcS hx hb hown hRsa_6746 dX7_readLine_178 ?_
                refine lv_aload_n hx hb dX7_readLine_180 rfl (lv_at hl 0 rfl) ?_
                refine va_get (D := (dC, dI)) (ci := 7) (v := .ref rM_fresh) (C := RX7) (T := TX7) (N := 48) hx hb hts inX7 hown hK hP 0 rfl rfl 16 (by decide) (hts _ wd_156) (fun _ h9 => h9) rfl dX7_readLine_181 ?_
                refine lv_iconst (v := 3) hx hb dX7_readLine_184 (by decide) ?_
                refine va_iald hx hb hK hP 3 2 rfl rfl (by unfold vp_in; decide) dX7_readLine_185 ?_
                refine lv_topi (fun x_6747 ex_6747 => ?_)
                have hG := hG.trans (lt_eq ex_6747)
                have cx_6747 : (fM_fresh 3).toInt = x_6747.toInt := congrArg Int32.toInt (show fM_fresh 3 = x_6747 from ex_6747.symm)
                refine lv_iconst (v := 4) hx hb dX7_readLine_186 (by decide) ?_
                refine vz_jgeX hx hb dX7_readLine_187 dX7_readLine_190 dX7_readLine_191 dX7_readLine_194 (fun x_6748 ex_6748 b_x_6748 j_x_6748 => ?_)
                have hG := hG.trans (lt_eq ex_6748)
                have j_x_6748 : 1 ≤ x_6748.toInt → x_6747.toInt < 4 := fun h9 => by have h8 := j_x_6748 h9; rw [kc_4] at h8; exact h8
                have hMs := ml_of hD [true, true, true, true, true, false] (wc := [(oc7 oM iM_thrown rM_tape iM_taped iM_size x_6732 x_6733 x_6734 x_6735 x_6736 x_6737 x_6738 iM_trouble rM_letters x_6739 iM_hasCourt rM_r rM_fresh rM_told rM_read rM_st rM_undone rM_kept iM_undos iM_images rM_fresher iM_fresherSize iM_scale iM_night rM_heardRow rM_cutRow iM_breaths iM_cutMany iM_allBreaths rM_trial rM_words iM_fewestBreaths iM_orderMany iM_orderSum iM_leastOrder rM_often iM_setMany iM_someOf iM_allOf iM_allWeight iM_enoughWeight iM_worthSum iM_firstRest iM_leastDrawn), (arI rM_tape kM_tape 900 fM_tape), (arI rM_letters kM_letters 8 f_6740), (arI rM_fresh kM_fresh 287 fM_fresh), (arI rM_read kM_read 90 fM_read)]) rfl
                have hFc := va_freeM hD hS hA _ hMs
                refine va_calli (va_runV (As := [.ref sa_6746, .int x_6748]) (rest := []) ⟨hx, hb, hml, hown, hts⟩ (tX7_begins l dC dI _ oM iM_thrown rM_tape fM_tape kM_tape iM_taped iM_size x_6732 x_6733 x_6734 x_6735 x_6736 x_6737 x_6738 iM_trouble rM_letters f_6740 kM_letters x_6739 iM_hasCourt rM_r rM_fresh fM_fresh kM_fresh rM_told rM_read fM_read kM_read rM_st rM_undone rM_kept iM_undos iM_images rM_fresher iM_fresherSize iM_scale iM_night rM_heardRow rM_cutRow iM_breaths iM_cutMany iM_allBreaths rM_trial rM_words iM_fewestBreaths iM_orderMany iM_orderSum iM_leastOrder rM_often iM_setMany iM_someOf iM_allOf iM_allWeight iM_enoughWeight iM_worthSum iM_firstRest iM_leastDrawn sa_6746 x_6748 vsa_6746 nsa_6746 fsa_6746 b_iM_taped b_iM_size b_x_6733 b_x_6736 b_x_6739 b_iM_hasCourt b_iM_undos b_iM_images b_iM_scale b_iM_breaths b_iM_cutMany e_x_6732_1 r_P (Nat.le_trans (Nat.le_of_eq hnesa_6746) (by decide)) (by first | assumption | (have q0 := kc_0; have q1 := kc_1; first | exact ⟨by omega, by omega⟩ | omega) | decide | (intro h; exact absurd h (by decide)))) (cwV 2 hts (wd_V wd_450 wd_451 wd_452 wd_5 (wd_c wd_453)) rfl rfl rfl dv_yX7_begins_2 ⟨Nat.le_of_ble_eq_true rfl, Nat.le_of_ble_eq_true rfl⟩) ⟨Pq.fb, recvX7 hK hP (q0 := 0) rfl, fun U hU hW => Pq.to (hP.ms _ hMs) (hD.ms _ hMs) (hK.ms [true, true, true, true, false] rfl) hSsa_6746 hE hS hFc hU hW⟩ rfl rfl hl.1 rfl (lv_room (Nat.le_of_ble_eq_true rfl)) dX7_readLine_195 ⟨Nat.le_of_ble_eq_true rfl, Nat.le_of_ble_eq_true rfl⟩) hS (fun q _ h => hFc q h) hFc (fun r u t H locs ht hvm hw hB hz1 hk1 hS => ?_)
                have hru9 := hw.2
                have hw := hw.1
                refine ex_9_9 hB (fun x_6749 x_6750 x_6751 x_6752 x_6753 x_6754 x_6755 x_6756 f_6757 b_x_6750 b_x_6753 b_x_6756 e_x_6749_0 e_x_6749_1 e_x_6749_2 e_x_6749_3 e_x_6749_4 e_x_6749_5 hB => ?_)
                obtain ⟨hP, hD⟩ := Bw.goN (ws' := [(oc7 oM iM_thrown rM_tape iM_taped iM_size x_6749 x_6750 x_6751 x_6752 x_6753 x_6754 x_6755 iM_trouble rM_letters x_6756 iM_hasCourt rM_r rM_fresh rM_told rM_read rM_st rM_undone rM_kept iM_undos iM_images rM_fresher iM_fresherSize iM_scale iM_night rM_heardRow rM_cutRow iM_breaths iM_cutMany iM_allBreaths rM_trial rM_words iM_fewestBreaths iM_orderMany iM_orderSum iM_leastOrder rM_often iM_setMany iM_someOf iM_allOf iM_allWeight iM_enoughWeight iM_worthSum iM_firstRest iM_leastDrawn), (arI rM_tape kM_tape 900 fM_tape), (arI rM_letters kM_letters 8 f_6757), (arI rM_fresh kM_fresh 287 fM_fresh), (arI rM_read kM_read 90 fM_read), (arI rM_fresher kM_fresher 8 fM_fresher)]) hB rfl ht hP hD _ hMs hk1 hFc rfl
                clear hz1 hk1 hvm ht hB hMs
                rw [← hru9] at e_x_6749_5
                obtain ⟨x_6758, rfl⟩ : ∃ z, z = r := ⟨_, rfl⟩
                have hG := hG.trans (un10_eq e_x_6749_5)
                have bx_6758 := hw.1
                have dx_6758 := bz_tb bx_6758
                have lx_6758 := hw.2
                clear e_x_6732_1
                clear e_x_6732_4
                refine lv_if_eq (tgt := 208) hx hb dX7_readLine_198 (by decide) (fun c_6759 => ?_) (fun c_6759 => ?_)
                · skip
                  have hG := hG.trans (if_pos c_6759)
                  have gc_6759 := ti_eq c_6759 rfl kc_0
                  clear e_x_6749_3
                  refine lv_aload_n hx hb dX7_readLine_208 rfl (lv_at hl 0 rfl) ?_
                  obtain ⟨sa_6760, vsa_6760, nsa_6760, fsa_6760, hnsa_6760, hnesa_6760, hfesa_6760, hRsa_6760, hSsa_6760⟩ := hE.2.2.1 (148, "said", [115, 97, 105, 100]) (by decide)
                  have hG := hG.trans (lt_eq hnesa_6760)
                  have hG := hG.trans (lt_eq hfesa_6760)
                  refine va_ldcS hx hb hown hRsa_6760 dX7_readLine_209 ?_
                  have hMs := ml_of hD [true, false, true, false, false, false] (wc := [(oc7 oM iM_thrown rM_tape iM_taped iM_size x_6749 x_6750 x_6751 x_6752 x_6753 x_6754 x_6755 iM_trouble rM_letters x_6756 iM_hasCourt rM_r rM_fresh rM_told rM_read rM_st rM_undone rM_kept iM_undos iM_images rM_fresher iM_fresherSize iM_scale iM_night rM_heardRow rM_cutRow iM_breaths iM_cutMany iM_allBreaths rM_trial rM_words iM_fewestBreaths iM_orderMany iM_orderSum iM_leastOrder rM_often iM_setMany iM_someOf iM_allOf iM_allWeight iM_enoughWeight iM_worthSum iM_firstRest iM_leastDrawn), (arI rM_letters kM_letters 8 f_6757)]) rfl
                  have hFc := va_freeM hD hS hA _ hMs
                  refine va_calli (va_runV (As := [.ref sa_6760]) (rest := []) ⟨hx, hb, hml, hown, hts⟩ (tX7_isWord l dC dI _ oM iM_thrown rM_tape iM_taped iM_size x_6749 x_6750 x_6751 x_6752 x_6753 x_6754 x_6755 iM_trouble rM_letters f_6757 kM_letters x_6756 iM_hasCourt rM_r rM_fresh rM_told rM_read rM_st rM_undone rM_kept iM_undos iM_images rM_fresher iM_fresherSize iM_scale iM_night rM_heardRow rM_cutRow iM_breaths iM_cutMany iM_allBreaths rM_trial rM_words iM_fewestBreaths iM_orderMany iM_orderSum iM_leastOrder rM_often iM_setMany iM_someOf iM_allOf iM_allWeight iM_enoughWeight iM_worthSum iM_firstRest iM_leastDrawn sa_6760 vsa_6760 nsa_6760 fsa_6760 b_iM_taped b_iM_size b_x_6750 b_x_6753 b_x_6756 b_iM_hasCourt b_iM_undos b_iM_images b_iM_scale b_iM_breaths b_iM_cutMany e_x_6749_1 (Nat.le_trans (Nat.le_of_eq hnesa_6760) (by decide))) (cwV 1 hts (wd_V wd_420 wd_421 wd_422 wd_5 (wd_c wd_423)) rfl rfl rfl dv_yX7_isWord_1 ⟨Nat.le_of_ble_eq_true rfl, Nat.le_of_ble_eq_true rfl⟩) ⟨Pq.fb, recvX7 hK hP (q0 := 0) rfl, fun U hU hW => Pq.to (hP.ms _ hMs) (hD.ms _ hMs) (hK.ms [false, true, false, false, false] rfl) hSsa_6760 hE hS hFc hU hW⟩ rfl rfl hl.1 rfl (lv_room (Nat.le_of_ble_eq_true rfl)) dX7_readLine_211 ⟨Nat.le_of_ble_eq_true rfl, Nat.le_of_ble_eq_true rfl⟩) hS (fun q _ h => hFc q h) hFc (fun r u t H locs ht hvm hw hB hz1 hk1 hS => ?_)
                  have hru9 := hw.2
                  have hw := hw.1
                  obtain ⟨hP, hD⟩ := Bw.goN (ws' := [(oc7 oM iM_thrown rM_tape iM_taped iM_size x_6749 x_6750 x_6751 x_6752 x_6753 x_6754 x_6755 iM_trouble rM_letters x_6756 iM_hasCourt rM_r rM_fresh rM_told rM_read rM_st rM_undone rM_kept iM_undos iM_images rM_fresher iM_fresherSize iM_scale iM_night rM_heardRow rM_cutRow iM_breaths iM_cutMany iM_allBreaths rM_trial rM_words iM_fewestBreaths iM_orderMany iM_orderSum iM_leastOrder rM_often iM_setMany iM_someOf iM_allOf iM_allWeight iM_enoughWeight iM_worthSum iM_firstRest iM_leastDrawn), (arI rM_tape kM_tape 900 fM_tape), (arI rM_letters kM_letters 8 f_6757), (arI rM_fresh kM_fresh 287 fM_fresh), (arI rM_read kM_read 90 fM_read), (arI rM_fresher kM_fresher 8 fM_fresher)]) hB rfl ht hP hD _ hMs hk1 hFc rfl
                  clear hz1 hk1 hvm ht hB hMs
                  obtain ⟨x_6761, rfl⟩ : ∃ z, z = r := ⟨_, rfl⟩
                  have hG := hG.trans (lt_eq hru9.symm)
                  have bx_6761 := hw.1
                  have dx_6761 := bz_tb bx_6761
                  have lx_6761 := hw.2
                  refine lv_if_eq (tgt := 224) hx hb dX7_readLine_214 (by decide) (fun c_6762 => ?_) (fun c_6762 => ?_)
                  · skip
                    have hG := hG.trans (if_pos c_6762)
                    have gc_6762 := ti_eq c_6762 rfl kc_0
                    clear lx_6761
                    refine lv_aload_n hx hb dX7_readLine_224 rfl (lv_at hl 0 rfl) ?_
                    refine lv_iconst (v := 1) hx hb dX7_readLine_225 (by decide) ?_
                    refine lv_aload_n hx hb dX7_readLine_226 rfl (lv_at hl 0 rfl) ?_
                    refine va_get (D := (dC, dI)) (ci := 7) (v := .int x_6749) (C := RX7) (T := TX7) (N := 48) hx hb hts inX7 hown hK hP 0 rfl rfl 4 (by decide) (hts _ wd_384) (fun _ h9 => h9) rfl dX7_readLine_227 ?_
                    have hMs := ml_of hD [true, false, false, false, false, false] (wc := [(oc7 oM iM_thrown rM_tape iM_taped iM_size x_6749 x_6750 x_6751 x_6752 x_6753 x_6754 x_6755 iM_trouble rM_letters x_6756 iM_hasCourt rM_r rM_fresh rM_told rM_read rM_st rM_undone rM_kept iM_undos iM_images rM_fresher iM_fresherSize iM_scale iM_night rM_heardRow rM_cutRow iM_breaths iM_cutMany iM_allBreaths rM_trial rM_words iM_fewestBreaths iM_orderMany iM_orderSum iM_leastOrder rM_often iM_setMany iM_someOf iM_allOf iM_allWeight iM_enoughWeight iM_worthSum iM_firstRest iM_leastDrawn)]) rfl
                    have hFc := va_freeM hD hS hA _ hMs
                    refine va_callv (va_runV (As := [.int 1, .int x_6749]) (rest := []) ⟨hx, hb, hml, hown, hts⟩ (tX7_wrong l dC dI _ oM iM_thrown rM_tape iM_taped iM_size x_6749 x_6750 x_6751 x_6752 x_6753 x_6754 x_6755 iM_trouble rM_letters x_6756 iM_hasCourt rM_r rM_fresh rM_told rM_read rM_st rM_undone rM_kept iM_undos iM_images rM_fresher iM_fresherSize iM_scale iM_night rM_heardRow rM_cutRow iM_breaths iM_cutMany iM_allBreaths rM_trial rM_words iM_fewestBreaths iM_orderMany iM_orderSum iM_leastOrder rM_often iM_setMany iM_someOf iM_allOf iM_allWeight iM_enoughWeight iM_worthSum iM_firstRest iM_leastDrawn 1 x_6749 b_iM_taped b_iM_size b_x_6750 b_x_6753 b_x_6756 b_iM_hasCourt b_iM_undos b_iM_images b_iM_scale b_iM_breaths b_iM_cutMany e_x_6749_1) (cwV 2 hts (wd_V wd_430 wd_431 wd_432 wd_5 (wd_c wd_433)) rfl rfl rfl dv_yX7_wrong_2 ⟨Nat.le_of_ble_eq_true rfl, Nat.le_of_ble_eq_true rfl⟩) ⟨Pw.fb, recvX7 hK hP (q0 := 0) rfl, fun U hU hW => Pw.to (hP.ms _ hMs) (hD.ms _ hMs) (hK.ms [false, false, false, false, false] rfl) hE hS hFc hU hW⟩ rfl rfl hl.1 rfl (lv_room (Nat.le_of_ble_eq_true rfl)) dX7_readLine_230 ⟨Nat.le_of_ble_eq_true rfl, Nat.le_of_ble_eq_true rfl⟩) hS (fun q _ h => hFc q h) hFc (fun u t H locs ht hvm hw hB hz1 hk1 hS => ?_)
                    refine ex_3_3 hB (fun x_6763 x_6764 x_6765 b_x_6765 e_x_6763_0 e_x_6763_1 hB => ?_)
                    obtain ⟨hP, hD⟩ := Bw.goN (ws' := [(oc7 oM iM_thrown rM_tape iM_taped iM_size x_6749 x_6750 x_6751 x_6752 x_6753 x_6763 x_6764 iM_trouble rM_letters x_6765 iM_hasCourt rM_r rM_fresh rM_told rM_read rM_st rM_undone rM_kept iM_undos iM_images rM_fresher iM_fresherSize iM_scale iM_night rM_heardRow rM_cutRow iM_breaths iM_cutMany iM_allBreaths rM_trial rM_words iM_fewestBreaths iM_orderMany iM_orderSum iM_leastOrder rM_often iM_setMany iM_someOf iM_allOf iM_allWeight iM_enoughWeight iM_worthSum iM_firstRest iM_leastDrawn), (arI rM_tape kM_tape 900 fM_tape), (arI rM_letters kM_letters 8 f_6757), (arI rM_fresh kM_fresh 287 fM_fresh), (arI rM_read kM_read 90 fM_read), (arI rM_fresher kM_fresher 8 fM_fresher)]) hB rfl ht hP hD _ hMs hk1 hFc rfl
                    clear hz1 hk1 hvm ht hB hMs
                    have hG := hG.trans (un3_eq e_x_6763_1)
                    exact wq_v hx hb hr 0 trivial (fun t ht hW => ⟨x_6749, x_6750, x_6751, x_6752, x_6753, x_6763, x_6764, x_6765, iM_fresherSize, f_6757, fM_fresh, fM_read, fM_fresher, b_x_6750, b_x_6753, b_x_6765, (om_dcd74bf2 e_x_6605_0 e_x_6619_0 e_x_6633_0 e_x_6732_0 e_x_6749_0), e_x_6749_1, (om_00f1c5dd b_iM_failed.2 e_x_6763_0), (fun h9 => False.elim (om_92495247 e_x_6763_0 h9.1)), r_P, hG, Bw.to hP hD hK ht hW⟩) hS dX7_readLine_233 hlocks
                  · skip
                    have hG := hG.trans (if_neg c_6762)
                    have gc_6762 := ti_ne c_6762 rfl kc_0
                    replace gc_6762 : (-1) * x_6761.toInt + 1 ≤ 0 := om_e3003f79 gc_6762 dx_6761.1
                    have h_6766 : x_6751.toInt = 2 := lx_6761 (om_7907a7c1 dx_6761.2 gc_6762)
                    clear lx_6761
                    have h_6767 : x_6753.toInt ≤ 8 := e_x_6749_1 h_6766
                    clear e_x_6749_1
                    refine lv_aload_n hx hb dX7_readLine_217 rfl (lv_at hl 0 rfl) ?_
                    have hMs := ml_of hD [true, true, true, true, true, false] (wc := [(oc7 oM iM_thrown rM_tape iM_taped iM_size x_6749 x_6750 x_6751 x_6752 x_6753 x_6754 x_6755 iM_trouble rM_letters x_6756 iM_hasCourt rM_r rM_fresh rM_told rM_read rM_st rM_undone rM_kept iM_undos iM_images rM_fresher iM_fresherSize iM_scale iM_night rM_heardRow rM_cutRow iM_breaths iM_cutMany iM_allBreaths rM_trial rM_words iM_fewestBreaths iM_orderMany iM_orderSum iM_leastOrder rM_often iM_setMany iM_someOf iM_allOf iM_allWeight iM_enoughWeight iM_worthSum iM_firstRest iM_leastDrawn), (arI rM_tape kM_tape 900 fM_tape), (arI rM_letters kM_letters 8 f_6757), (arI rM_fresh kM_fresh 287 fM_fresh), (arI rM_read kM_read 90 fM_read)]) rfl
                    have hFc := va_freeM hD hS hA _ hMs
                    refine va_callv (va_runV (As := []) (rest := []) ⟨hx, hb, hml, hown, hts⟩ (tX7_saidLine l dC dI _ oM iM_thrown rM_tape fM_tape kM_tape iM_taped iM_size x_6749 x_6750 x_6751 x_6752 x_6753 x_6754 x_6755 iM_trouble rM_letters f_6757 kM_letters x_6756 iM_hasCourt rM_r rM_fresh fM_fresh kM_fresh rM_told rM_read fM_read kM_read rM_st rM_undone rM_kept iM_undos iM_images rM_fresher iM_fresherSize iM_scale iM_night rM_heardRow rM_cutRow iM_breaths iM_cutMany iM_allBreaths rM_trial rM_words iM_fewestBreaths iM_orderMany iM_orderSum iM_leastOrder rM_often iM_setMany iM_someOf iM_allOf iM_allWeight iM_enoughWeight iM_worthSum iM_firstRest iM_leastDrawn b_iM_taped b_iM_size b_x_6750 b_x_6753 b_x_6756 b_iM_hasCourt b_iM_undos b_iM_images b_iM_scale b_iM_breaths b_iM_cutMany (fun h9 => h_6767) r_P) (cwV 0 hts (wd_V wd_498 wd_499 wd_500 wd_5 (wd_c wd_501)) rfl rfl rfl dv_yX7_saidLine_0 ⟨Nat.le_of_ble_eq_true rfl, Nat.le_of_ble_eq_true rfl⟩) ⟨Pw.fb, recvX7 hK hP (q0 := 0) rfl, fun U hU hW => Pw.to (hP.ms _ hMs) (hD.ms _ hMs) (hK.ms [true, true, true, true, false] rfl) hE hS hFc hU hW⟩ rfl rfl hl.1 rfl (lv_room (Nat.le_of_ble_eq_true rfl)) dX7_readLine_218 ⟨Nat.le_of_ble_eq_true rfl, Nat.le_of_ble_eq_true rfl⟩) hS (fun q _ h => hFc q h) hFc (fun u t H locs ht hvm hw hB hz1 hk1 hS => ?_)
                    refine ex_10_9 hB (fun x_6768 x_6769 x_6770 x_6771 x_6772 x_6773 x_6774 x_6775 f_6776 f_6777 b_x_6769 b_x_6772 b_x_6775 e_x_6768_0 e_x_6768_1 e_x_6768_2 e_x_6768_3 e_x_6768_4 e_x_6768_5 hB => ?_)
                    obtain ⟨hP, hD⟩ := Bw.goN (ws' := [(oc7 oM iM_thrown rM_tape iM_taped iM_size x_6768 x_6769 x_6770 x_6771 x_6772 x_6773 x_6774 iM_trouble rM_letters x_6775 iM_hasCourt rM_r rM_fresh rM_told rM_read rM_st rM_undone rM_kept iM_undos iM_images rM_fresher iM_fresherSize iM_scale iM_night rM_heardRow rM_cutRow iM_breaths iM_cutMany iM_allBreaths rM_trial rM_words iM_fewestBreaths iM_orderMany iM_orderSum iM_leastOrder rM_often iM_setMany iM_someOf iM_allOf iM_allWeight iM_enoughWeight iM_worthSum iM_firstRest iM_leastDrawn), (arI rM_tape kM_tape 900 fM_tape), (arI rM_letters kM_letters 8 f_6776), (arI rM_fresh kM_fresh 287 f_6777), (arI rM_read kM_read 90 fM_read), (arI rM_fresher kM_fresher 8 fM_fresher)]) hB rfl ht hP hD _ hMs hk1 hFc rfl
                    clear hz1 hk1 hvm ht hB hMs
                    have pl_f_6777 := e_x_6768_4.lins
                    have hG := hG.trans (un10_eq e_x_6768_5)
                    clear e_x_6749_4
                    refine lv_goto (tgt := 233) hx hb dX7_readLine_221 (by decide) ?_
                    exact wq_v hx hb hr 0 trivial (fun t ht hW => ⟨x_6768, x_6769, x_6770, x_6771, x_6772, x_6773, x_6774, x_6775, iM_fresherSize, f_6776, f_6777, fM_read, fM_fresher, b_x_6769, b_x_6772, b_x_6775, (om_ac7239fc e_x_6605_0 e_x_6619_0 e_x_6633_0 e_x_6732_0 e_x_6749_0 e_x_6768_0), e_x_6768_1, (om_ac7239fc e_x_6605_2 e_x_6619_2 e_x_6633_2 e_x_6732_2 e_x_6749_2 e_x_6768_2), (fun h9 => (om_ab9846f4 e_x_6605_0 e_x_6619_0 e_x_6633_0 e_x_6732_0 e_x_6749_0 (e_x_6768_3 ⟨h9.1, h9.2⟩))), e_x_6768_4, hG, Bw.to hP hD hK ht hW⟩) hS dX7_readLine_233 hlocks
                · skip
                  have hG := hG.trans (if_neg c_6759)
                  have gc_6759 := ti_ne c_6759 rfl kc_0
                  replace gc_6759 : (-1) * x_6758.toInt + 1 ≤ 0 := om_e3003f79 gc_6759 dx_6758.1
                  have h_6778 := e_x_6749_3 (by omega)
                  clear e_x_6749_3
                  refine lv_aload_n hx hb dX7_readLine_201 rfl (lv_at hl 0 rfl) ?_
                  have hMs := ml_of hD [true, true, true, true, true, false] (wc := [(oc7 oM iM_thrown rM_tape iM_taped iM_size x_6749 x_6750 x_6751 x_6752 x_6753 x_6754 x_6755 iM_trouble rM_letters x_6756 iM_hasCourt rM_r rM_fresh rM_told rM_read rM_st rM_undone rM_kept iM_undos iM_images rM_fresher iM_fresherSize iM_scale iM_night rM_heardRow rM_cutRow iM_breaths iM_cutMany iM_allBreaths rM_trial rM_words iM_fewestBreaths iM_orderMany iM_orderSum iM_leastOrder rM_often iM_setMany iM_someOf iM_allOf iM_allWeight iM_enoughWeight iM_worthSum iM_firstRest iM_leastDrawn), (arI rM_tape kM_tape 900 fM_tape), (arI rM_letters kM_letters 8 f_6757), (arI rM_fresh kM_fresh 287 fM_fresh), (arI rM_read kM_read 90 fM_read)]) rfl
                  have hFc := va_freeM hD hS hA _ hMs
                  refine va_callv (va_runV (As := []) (rest := []) ⟨hx, hb, hml, hown, hts⟩ (tX7_unsureLine l dC dI _ oM iM_thrown rM_tape fM_tape kM_tape iM_taped iM_size x_6749 x_6750 x_6751 x_6752 x_6753 x_6754 x_6755 iM_trouble rM_letters f_6757 kM_letters x_6756 iM_hasCourt rM_r rM_fresh fM_fresh kM_fresh rM_told rM_read fM_read kM_read rM_st rM_undone rM_kept iM_undos iM_images rM_fresher iM_fresherSize iM_scale iM_night rM_heardRow rM_cutRow iM_breaths iM_cutMany iM_allBreaths rM_trial rM_words iM_fewestBreaths iM_orderMany iM_orderSum iM_leastOrder rM_often iM_setMany iM_someOf iM_allOf iM_allWeight iM_enoughWeight iM_worthSum iM_firstRest iM_leastDrawn b_iM_taped b_iM_size b_x_6750 b_x_6753 b_x_6756 b_iM_hasCourt b_iM_undos b_iM_images b_iM_scale b_iM_breaths b_iM_cutMany e_x_6749_1 r_P (by intro h9; have q0 := kc_0; have q1 := kc_1; have q2 := kc_2; have q3 := kc_3; omega)) (cwV 0 hts (wd_V wd_494 wd_495 wd_496 wd_5 (wd_c wd_497)) rfl rfl rfl dv_yX7_unsureLine_0 ⟨Nat.le_of_ble_eq_true rfl, Nat.le_of_ble_eq_true rfl⟩) ⟨Pw.fb, recvX7 hK hP (q0 := 0) rfl, fun U hU hW => Pw.to (hP.ms _ hMs) (hD.ms _ hMs) (hK.ms [true, true, true, true, false] rfl) hE hS hFc hU hW⟩ rfl rfl hl.1 rfl (lv_room (Nat.le_of_ble_eq_true rfl)) dX7_readLine_202 ⟨Nat.le_of_ble_eq_true rfl, Nat.le_of_ble_eq_true rfl⟩) hS (fun q _ h => hFc q h) hFc (fun u t H locs ht hvm hw hB hz1 hk1 hS => ?_)
                  refine ex_10_9 hB (fun x_6779 x_6780 x_6781 x_6782 x_6783 x_6784 x_6785 x_6786 f_6787 f_6788 b_x_6780 b_x_6783 b_x_6786 e_x_6779_0 e_x_6779_1 e_x_6779_2 e_x_6779_3 e_x_6779_4 e_x_6779_5 hB => ?_)
                  obtain ⟨hP, hD⟩ := Bw.goN (ws' := [(oc7 oM iM_thrown rM_tape iM_taped iM_size x_6779 x_6780 x_6781 x_6782 x_6783 x_6784 x_6785 iM_trouble rM_letters x_6786 iM_hasCourt rM_r rM_fresh rM_told rM_read rM_st rM_undone rM_kept iM_undos iM_images rM_fresher iM_fresherSize iM_scale iM_night rM_heardRow rM_cutRow iM_breaths iM_cutMany iM_allBreaths rM_trial rM_words iM_fewestBreaths iM_orderMany iM_orderSum iM_leastOrder rM_often iM_setMany iM_someOf iM_allOf iM_allWeight iM_enoughWeight iM_worthSum iM_firstRest iM_leastDrawn), (arI rM_tape kM_tape 900 fM_tape), (arI rM_letters kM_letters 8 f_6787), (arI rM_fresh kM_fresh 287 f_6788), (arI rM_read kM_read 90 fM_read), (arI rM_fresher kM_fresher 8 fM_fresher)]) hB rfl ht hP hD _ hMs hk1 hFc rfl
                  clear hz1 hk1 hvm ht hB hMs
                  have pl_f_6788 := e_x_6779_4.lins
                  have hG := hG.trans (un10_eq e_x_6779_5)
                  clear e_x_6749_1
                  clear e_x_6749_4
                  refine lv_goto (tgt := 233) hx hb dX7_readLine_205 (by decide) ?_
                  exact wq_v hx hb hr 0 trivial (fun t ht hW => ⟨x_6779, x_6780, x_6781, x_6782, x_6783, x_6784, x_6785, x_6786, iM_fresherSize, f_6787, f_6788, fM_read, fM_fresher, b_x_6780, b_x_6783, b_x_6786, (om_ac7239fc e_x_6605_0 e_x_6619_0 e_x_6633_0 e_x_6732_0 e_x_6749_0 e_x_6779_0), e_x_6779_1, (om_ac7239fc e_x_6605_2 e_x_6619_2 e_x_6633_2 e_x_6732_2 e_x_6749_2 e_x_6779_2), (fun h9 => (om_ab9846f4 e_x_6605_0 e_x_6619_0 e_x_6633_0 e_x_6732_0 e_x_6749_0 (e_x_6779_3 ⟨h9.1, h9.2⟩))), e_x_6779_4, hG, Bw.to hP hD hK ht hW⟩) hS dX7_readLine_233 hlocks
              · skip
                have hG := hG.trans (if_neg c_6745)
                have gc_6745 := ti_ne c_6745 rfl kc_0
                replace gc_6745 : (-1) * x_6744.toInt + 1 ≤ 0 := om_e3003f79 gc_6745 dx_6744.1
                have h_6789 : x_6734.toInt = 2 := lx_6744 (om_7907a7c1 dx_6744.2 gc_6745)
                clear lx_6744
                have h_6790 : x_6736.toInt ≤ 8 := e_x_6732_1 h_6789
                clear e_x_6732_1
                refine lv_aload_n hx hb dX7_readLine_170 rfl (lv_at hl 0 rfl) ?_
                have hMs := ml_of hD [true, true, true, true, true, false] (wc := [(oc7 oM iM_thrown rM_tape iM_taped iM_size x_6732 x_6733 x_6734 x_6735 x_6736 x_6737 x_6738 iM_trouble rM_letters x_6739 iM_hasCourt rM_r rM_fresh rM_told rM_read rM_st rM_undone rM_kept iM_undos iM_images rM_fresher iM_fresherSize iM_scale iM_night rM_heardRow rM_cutRow iM_breaths iM_cutMany iM_allBreaths rM_trial rM_words iM_fewestBreaths iM_orderMany iM_orderSum iM_leastOrder rM_often iM_setMany iM_someOf iM_allOf iM_allWeight iM_enoughWeight iM_worthSum iM_firstRest iM_leastDrawn), (arI rM_tape kM_tape 900 fM_tape), (arI rM_letters kM_letters 8 f_6740), (arI rM_fresh kM_fresh 287 fM_fresh), (arI rM_read kM_read 90 fM_read)]) rfl
                have hFc := va_freeM hD hS hA _ hMs
                refine va_callv (va_runV (As := []) (rest := []) ⟨hx, hb, hml, hown, hts⟩ (tX7_throneLine l dC dI _ oM iM_thrown rM_tape fM_tape kM_tape iM_taped iM_size x_6732 x_6733 x_6734 x_6735 x_6736 x_6737 x_6738 iM_trouble rM_letters f_6740 kM_letters x_6739 iM_hasCourt rM_r rM_fresh fM_fresh kM_fresh rM_told rM_read fM_read kM_read rM_st rM_undone rM_kept iM_undos iM_images rM_fresher iM_fresherSize iM_scale iM_night rM_heardRow rM_cutRow iM_breaths iM_cutMany iM_allBreaths rM_trial rM_words iM_fewestBreaths iM_orderMany iM_orderSum iM_leastOrder rM_often iM_setMany iM_someOf iM_allOf iM_allWeight iM_enoughWeight iM_worthSum iM_firstRest iM_leastDrawn b_iM_taped b_iM_size b_x_6733 b_x_6736 b_x_6739 b_iM_hasCourt b_iM_undos b_iM_images b_iM_scale b_iM_breaths b_iM_cutMany (fun h9 => h_6790) r_P) (cwV 0 hts (wd_V wd_490 wd_491 wd_492 wd_5 (wd_c wd_493)) rfl rfl rfl dv_yX7_throneLine_0 ⟨Nat.le_of_ble_eq_true rfl, Nat.le_of_ble_eq_true rfl⟩) ⟨Pw.fb, recvX7 hK hP (q0 := 0) rfl, fun U hU hW => Pw.to (hP.ms _ hMs) (hD.ms _ hMs) (hK.ms [true, true, true, true, false] rfl) hE hS hFc hU hW⟩ rfl rfl hl.1 rfl (lv_room (Nat.le_of_ble_eq_true rfl)) dX7_readLine_171 ⟨Nat.le_of_ble_eq_true rfl, Nat.le_of_ble_eq_true rfl⟩) hS (fun q _ h => hFc q h) hFc (fun u t H locs ht hvm hw hB hz1 hk1 hS => ?_)
                refine ex_10_9 hB (fun x_6791 x_6792 x_6793 x_6794 x_6795 x_6796 x_6797 x_6798 f_6799 f_6800 b_x_6792 b_x_6795 b_x_6798 e_x_6791_0 e_x_6791_1 e_x_6791_2 e_x_6791_3 e_x_6791_4 e_x_6791_5 hB => ?_)
                obtain ⟨hP, hD⟩ := Bw.goN (ws' := [(oc7 oM iM_thrown rM_tape iM_taped iM_size x_6791 x_6792 x_6793 x_6794 x_6795 x_6796 x_6797 iM_trouble rM_letters x_6798 iM_hasCourt rM_r rM_fresh rM_told rM_read rM_st rM_undone rM_kept iM_undos iM_images rM_fresher iM_fresherSize iM_scale iM_night rM_heardRow rM_cutRow iM_breaths iM_cutMany iM_allBreaths rM_trial rM_words iM_fewestBreaths iM_orderMany iM_orderSum iM_leastOrder rM_often iM_setMany iM_someOf iM_allOf iM_allWeight iM_enoughWeight iM_worthSum iM_firstRest iM_leastDrawn), (arI rM_tape kM_tape 900 fM_tape), (arI rM_letters kM_letters 8 f_6799), (arI rM_fresh kM_fresh 287 f_6800), (arI rM_read kM_read 90 fM_read), (arI rM_fresher kM_fresher 8 fM_fresher)]) hB rfl ht hP hD _ hMs hk1 hFc rfl
                clear hz1 hk1 hvm ht hB hMs
                have pl_f_6800 := e_x_6791_4.lins
                have hG := hG.trans (un10_eq e_x_6791_5)
                clear e_x_6732_4
                refine lv_goto (tgt := 233) hx hb dX7_readLine_174 (by decide) ?_
                exact wq_v hx hb hr 0 trivial (fun t ht hW => ⟨x_6791, x_6792, x_6793, x_6794, x_6795, x_6796, x_6797, x_6798, iM_fresherSize, f_6799, f_6800, fM_read, fM_fresher, b_x_6792, b_x_6795, b_x_6798, (om_dcd74bf2 e_x_6605_0 e_x_6619_0 e_x_6633_0 e_x_6732_0 e_x_6791_0), e_x_6791_1, (om_dcd74bf2 e_x_6605_2 e_x_6619_2 e_x_6633_2 e_x_6732_2 e_x_6791_2), (fun h9 => (om_cad042f1 e_x_6605_0 e_x_6619_0 e_x_6633_0 e_x_6732_0 (e_x_6791_3 ⟨h9.1, h9.2⟩))), e_x_6791_4, hG, Bw.to hP hD hK ht hW⟩) hS dX7_readLine_233 hlocks
            · skip
              have hG := hG.trans (if_neg c_6742)
              have gc_6742 := ti_ne c_6742 rfl kc_0
              replace gc_6742 : (-1) * x_6741.toInt + 1 ≤ 0 := om_e3003f79 gc_6742 dx_6741.1
              have h_6801 := e_x_6732_3 (by omega)
              clear e_x_6732_3
              refine lv_aload_n hx hb dX7_readLine_153 rfl (lv_at hl 0 rfl) ?_
              refine lv_iconst (v := 3) hx hb dX7_readLine_154 (by decide) ?_
              have hFc := va_freeI hD hS hA
              refine va_callv (va_runV (As := [.int 3]) (rest := []) ⟨hx, hb, hml, hown, hts⟩ (tX7_innerLine l dC dI _ oM iM_thrown rM_tape fM_tape kM_tape iM_taped iM_size x_6732 x_6733 x_6734 x_6735 x_6736 x_6737 x_6738 iM_trouble rM_letters f_6740 kM_letters x_6739 iM_hasCourt rM_r rM_fresh fM_fresh kM_fresh rM_told rM_read fM_read kM_read rM_st rM_undone rM_kept iM_undos iM_images rM_fresher fM_fresher kM_fresher iM_fresherSize iM_scale iM_night rM_heardRow rM_cutRow iM_breaths iM_cutMany iM_allBreaths rM_trial rM_words iM_fewestBreaths iM_orderMany iM_orderSum iM_leastOrder rM_often iM_setMany iM_someOf iM_allOf iM_allWeight iM_enoughWeight iM_worthSum iM_firstRest iM_leastDrawn 3 b_iM_taped b_iM_size b_x_6733 b_x_6736 b_x_6739 b_iM_hasCourt b_iM_undos b_iM_images b_iM_scale b_iM_breaths b_iM_cutMany e_x_6732_1 r_P ⟨(om_bf54f653 kc_3), (om_6eb7c803 kc_3)⟩ (fun h9 => (om_0511bc05 cx_6645 gc_6646)) (by intro h9; have q0 := kc_0; have q1 := kc_1; have q2 := kc_2; have q3 := kc_3; omega)) (cwV 1 hts (wd_V wd_482 wd_483 wd_484 wd_5 (wd_c wd_485)) rfl rfl rfl dv_yX7_innerLine_1 ⟨Nat.le_of_ble_eq_true rfl, Nat.le_of_ble_eq_true rfl⟩) ⟨Pw.fb, recvX7 hK hP (q0 := 0) rfl, fun U hU hW => Pw.to hP hD hK hE hS hFc hU hW⟩ rfl rfl hl.1 rfl (lv_room (Nat.le_of_ble_eq_true rfl)) dX7_readLine_155 ⟨Nat.le_of_ble_eq_true rfl, Nat.le_of_ble_eq_true rfl⟩) hS (fun q _ h => hFc q h) hFc (fun u t H locs ht hvm hw hB hz1 hk1 hS => ?_)
              refine ex_13_9 hB (fun x_6802 x_6803 x_6804 x_6805 x_6806 x_6807 x_6808 x_6809 x_6810 f_6811 f_6812 f_6813 f_6814 b_x_6803 b_x_6806 b_x_6809 e_x_6802_0 e_x_6802_1 e_x_6802_2 e_x_6802_3 e_x_6802_4 e_x_6802_5 hB => ?_)
              obtain ⟨hP, hD⟩ := Bw.goA (ws' := [(oc7 oM iM_thrown rM_tape iM_taped iM_size x_6802 x_6803 x_6804 x_6805 x_6806 x_6807 x_6808 iM_trouble rM_letters x_6809 iM_hasCourt rM_r rM_fresh rM_told rM_read rM_st rM_undone rM_kept iM_undos iM_images rM_fresher x_6810 iM_scale iM_night rM_heardRow rM_cutRow iM_breaths iM_cutMany iM_allBreaths rM_trial rM_words iM_fewestBreaths iM_orderMany iM_orderSum iM_leastOrder rM_often iM_setMany iM_someOf iM_allOf iM_allWeight iM_enoughWeight iM_worthSum iM_firstRest iM_leastDrawn), (arI rM_tape kM_tape 900 fM_tape), (arI rM_letters kM_letters 8 f_6811), (arI rM_fresh kM_fresh 287 f_6812), (arI rM_read kM_read 90 f_6813), (arI rM_fresher kM_fresher 8 f_6814)]) hB rfl ht hFc rfl
              clear hz1 hk1 hvm ht hB
              have pl_f_6812 := e_x_6802_4.lins
              have hG := hG.trans (un13_eq e_x_6802_5)
              clear e_x_6732_1
              clear e_x_6732_4
              refine lv_goto (tgt := 233) hx hb dX7_readLine_158 (by decide) ?_
              exact wq_v hx hb hr 0 trivial (fun t ht hW => ⟨x_6802, x_6803, x_6804, x_6805, x_6806, x_6807, x_6808, x_6809, x_6810, f_6811, f_6812, f_6813, f_6814, b_x_6803, b_x_6806, b_x_6809, (om_dcd74bf2 e_x_6605_0 e_x_6619_0 e_x_6633_0 e_x_6732_0 e_x_6802_0), e_x_6802_1, (om_dcd74bf2 e_x_6605_2 e_x_6619_2 e_x_6633_2 e_x_6732_2 e_x_6802_2), (fun h9 => (om_cad042f1 e_x_6605_0 e_x_6619_0 e_x_6633_0 e_x_6732_0 (e_x_6802_3 ⟨h9.1, h9.2⟩))), e_x_6802_4, hG, Bw.to hP hD hK ht hW⟩) hS dX7_readLine_233 hlocks
        · skip
          have hG := hG.trans (if_neg c_6643)
          have gc_6643 := ti_ne c_6643 rfl kc_0
          replace gc_6643 : (-1) * x_6642.toInt + 1 ≤ 0 := om_e3003f79 gc_6643 dx_6642.1
          have h_6815 := e_x_6633_3 (by omega)
          clear e_x_6633_3
          refine lv_aload_n hx hb dX7_readLine_108 rfl (lv_at hl 0 rfl) ?_
          refine lv_iconst (v := 2) hx hb dX7_readLine_109 (by decide) ?_
          have hFc := va_freeI hD hS hA
          refine va_callv (va_runV (As := [.int 2]) (rest := []) ⟨hx, hb, hml, hown, hts⟩ (tX7_innerLine l dC dI _ oM iM_thrown rM_tape fM_tape kM_tape iM_taped iM_size x_6633 x_6634 x_6635 x_6636 x_6637 x_6638 x_6639 iM_trouble rM_letters f_6641 kM_letters x_6640 iM_hasCourt rM_r rM_fresh fM_fresh kM_fresh rM_told rM_read fM_read kM_read rM_st rM_undone rM_kept iM_undos iM_images rM_fresher fM_fresher kM_fresher iM_fresherSize iM_scale iM_night rM_heardRow rM_cutRow iM_breaths iM_cutMany iM_allBreaths rM_trial rM_words iM_fewestBreaths iM_orderMany iM_orderSum iM_leastOrder rM_often iM_setMany iM_someOf iM_allOf iM_allWeight iM_enoughWeight iM_worthSum iM_firstRest iM_leastDrawn 2 b_iM_taped b_iM_size b_x_6634 b_x_6637 b_x_6640 b_iM_hasCourt b_iM_undos b_iM_images b_iM_scale b_iM_breaths b_iM_cutMany e_x_6633_1 r_P ⟨(om_1d8fb110 kc_2), (om_b5116cbd kc_2)⟩ (by intro h9; have q0 := kc_0; have q1 := kc_1; have q2 := kc_2; have q3 := kc_3; omega) (fun h9 => False.elim (om_bb111043 h9.2 kc_2))) (cwV 1 hts (wd_V wd_482 wd_483 wd_484 wd_5 (wd_c wd_485)) rfl rfl rfl dv_yX7_innerLine_1 ⟨Nat.le_of_ble_eq_true rfl, Nat.le_of_ble_eq_true rfl⟩) ⟨Pw.fb, recvX7 hK hP (q0 := 0) rfl, fun U hU hW => Pw.to hP hD hK hE hS hFc hU hW⟩ rfl rfl hl.1 rfl (lv_room (Nat.le_of_ble_eq_true rfl)) dX7_readLine_110 ⟨Nat.le_of_ble_eq_true rfl, Nat.le_of_ble_eq_true rfl⟩) hS (fun q _ h => hFc q h) hFc (fun u t H locs ht hvm hw hB hz1 hk1 hS => ?_)
          refine ex_13_9 hB (fun x_6816 x_6817 x_6818 x_6819 x_6820 x_6821 x_6822 x_6823 x_6824 f_6825 f_6826 f_6827 f_6828 b_x_6817 b_x_6820 b_x_6823 e_x_6816_0 e_x_6816_1 e_x_6816_2 e_x_6816_3 e_x_6816_4 e_x_6816_5 hB => ?_)
          obtain ⟨hP, hD⟩ := Bw.goA (ws' := [(oc7 oM iM_thrown rM_tape iM_taped iM_size x_6816 x_6817 x_6818 x_6819 x_6820 x_6821 x_6822 iM_trouble rM_letters x_6823 iM_hasCourt rM_r rM_fresh rM_told rM_read rM_st rM_undone rM_kept iM_undos iM_images rM_fresher x_6824 iM_scale iM_night rM_heardRow rM_cutRow iM_breaths iM_cutMany iM_allBreaths rM_trial rM_words iM_fewestBreaths iM_orderMany iM_orderSum iM_leastOrder rM_often iM_setMany iM_someOf iM_allOf iM_allWeight iM_enoughWeight iM_worthSum iM_firstRest iM_leastDrawn), (arI rM_tape kM_tape 900 fM_tape), (arI rM_letters kM_letters 8 f_6825), (arI rM_fresh kM_fresh 287 f_6826), (arI rM_read kM_read 90 f_6827), (arI rM_fresher kM_fresher 8 f_6828)]) hB rfl ht hFc rfl
          clear hz1 hk1 hvm ht hB
          have pl_f_6826 := e_x_6816_4.lins
          have hG := hG.trans (un13_eq e_x_6816_5)
          clear e_x_6633_1
          clear e_x_6633_4
          refine lv_goto (tgt := 233) hx hb dX7_readLine_113 (by decide) ?_
          exact wq_v hx hb hr 0 trivial (fun t ht hW => ⟨x_6816, x_6817, x_6818, x_6819, x_6820, x_6821, x_6822, x_6823, x_6824, f_6825, f_6826, f_6827, f_6828, b_x_6817, b_x_6820, b_x_6823, (om_dc41b317 e_x_6605_0 e_x_6619_0 e_x_6633_0 e_x_6816_0), e_x_6816_1, (om_dc41b317 e_x_6605_2 e_x_6619_2 e_x_6633_2 e_x_6816_2), (fun h9 => (om_67b34c44 e_x_6605_0 e_x_6619_0 e_x_6633_0 (e_x_6816_3 ⟨h9.1, h9.2⟩))), e_x_6816_4, hG, Bw.to hP hD hK ht hW⟩) hS dX7_readLine_233 hlocks
      · skip
        have hG := hG.trans (if_neg c_6629)
        have gc_6629 := ti_ne c_6629 rfl kc_0
        replace gc_6629 : (-1) * x_6628.toInt + 1 ≤ 0 := om_e3003f79 gc_6629 dx_6628.1
        have h_6829 := e_x_6619_3 (by omega)
        clear e_x_6619_3
        refine lv_aload_n hx hb dX7_readLine_74 rfl (lv_at hl 0 rfl) ?_
        refine lv_iconst (v := 1) hx hb dX7_readLine_75 (by decide) ?_
        have hFc := va_freeI hD hS hA
        refine va_callv (va_runV (As := [.int 1]) (rest := []) ⟨hx, hb, hml, hown, hts⟩ (tX7_innerLine l dC dI _ oM iM_thrown rM_tape fM_tape kM_tape iM_taped iM_size x_6619 x_6620 x_6621 x_6622 x_6623 x_6624 x_6625 iM_trouble rM_letters f_6627 kM_letters x_6626 iM_hasCourt rM_r rM_fresh fM_fresh kM_fresh rM_told rM_read fM_read kM_read rM_st rM_undone rM_kept iM_undos iM_images rM_fresher fM_fresher kM_fresher iM_fresherSize iM_scale iM_night rM_heardRow rM_cutRow iM_breaths iM_cutMany iM_allBreaths rM_trial rM_words iM_fewestBreaths iM_orderMany iM_orderSum iM_leastOrder rM_often iM_setMany iM_someOf iM_allOf iM_allWeight iM_enoughWeight iM_worthSum iM_firstRest iM_leastDrawn 1 b_iM_taped b_iM_size b_x_6620 b_x_6623 b_x_6626 b_iM_hasCourt b_iM_undos b_iM_images b_iM_scale b_iM_breaths b_iM_cutMany e_x_6619_1 r_P ⟨(om_c083232f kc_1), (om_a83fc49f kc_1)⟩ (by intro h9; have q0 := kc_0; have q1 := kc_1; have q2 := kc_2; have q3 := kc_3; omega) (fun h9 => False.elim (om_9636131c h9.2 kc_1))) (cwV 1 hts (wd_V wd_482 wd_483 wd_484 wd_5 (wd_c wd_485)) rfl rfl rfl dv_yX7_innerLine_1 ⟨Nat.le_of_ble_eq_true rfl, Nat.le_of_ble_eq_true rfl⟩) ⟨Pw.fb, recvX7 hK hP (q0 := 0) rfl, fun U hU hW => Pw.to hP hD hK hE hS hFc hU hW⟩ rfl rfl hl.1 rfl (lv_room (Nat.le_of_ble_eq_true rfl)) dX7_readLine_76 ⟨Nat.le_of_ble_eq_true rfl, Nat.le_of_ble_eq_true rfl⟩) hS (fun q _ h => hFc q h) hFc (fun u t H locs ht hvm hw hB hz1 hk1 hS => ?_)
        refine ex_13_9 hB (fun x_6830 x_6831 x_6832 x_6833 x_6834 x_6835 x_6836 x_6837 x_6838 f_6839 f_6840 f_6841 f_6842 b_x_6831 b_x_6834 b_x_6837 e_x_6830_0 e_x_6830_1 e_x_6830_2 e_x_6830_3 e_x_6830_4 e_x_6830_5 hB => ?_)
        obtain ⟨hP, hD⟩ := Bw.goA (ws' := [(oc7 oM iM_thrown rM_tape iM_taped iM_size x_6830 x_6831 x_6832 x_6833 x_6834 x_6835 x_6836 iM_trouble rM_letters x_6837 iM_hasCourt rM_r rM_fresh rM_told rM_read rM_st rM_undone rM_kept iM_undos iM_images rM_fresher x_6838 iM_scale iM_night rM_heardRow rM_cutRow iM_breaths iM_cutMany iM_allBreaths rM_trial rM_words iM_fewestBreaths iM_orderMany iM_orderSum iM_leastOrder rM_often iM_setMany iM_someOf iM_allOf iM_allWeight iM_enoughWeight iM_worthSum iM_firstRest iM_leastDrawn), (arI rM_tape kM_tape 900 fM_tape), (arI rM_letters kM_letters 8 f_6839), (arI rM_fresh kM_fresh 287 f_6840), (arI rM_read kM_read 90 f_6841), (arI rM_fresher kM_fresher 8 f_6842)]) hB rfl ht hFc rfl
        clear hz1 hk1 hvm ht hB
        have pl_f_6840 := e_x_6830_4.lins
        have hG := hG.trans (un13_eq e_x_6830_5)
        clear e_x_6619_1
        clear e_x_6619_4
        refine lv_goto (tgt := 233) hx hb dX7_readLine_79 (by decide) ?_
        exact wq_v hx hb hr 0 trivial (fun t ht hW => ⟨x_6830, x_6831, x_6832, x_6833, x_6834, x_6835, x_6836, x_6837, x_6838, f_6839, f_6840, f_6841, f_6842, b_x_6831, b_x_6834, b_x_6837, (om_622f2a87 e_x_6605_0 e_x_6619_0 e_x_6830_0), e_x_6830_1, (om_622f2a87 e_x_6605_2 e_x_6619_2 e_x_6830_2), (fun h9 => (om_2d38588c e_x_6605_0 e_x_6619_0 (e_x_6830_3 ⟨h9.1, h9.2⟩))), e_x_6830_4, hG, Bw.to hP hD hK ht hW⟩) hS dX7_readLine_233 hlocks
    · skip
      have hG := hG.trans (if_neg c_6615)
      have gc_6615 := ti_ne c_6615 rfl kc_0
      replace gc_6615 : (-1) * x_6614.toInt + 1 ≤ 0 := om_e3003f79 gc_6615 dx_6614.1
      have h_6843 := e_x_6605_3 (by omega)
      clear e_x_6605_3
      refine lv_aload_n hx hb dX7_readLine_41 rfl (lv_at hl 0 rfl) ?_
      have hFc := va_freeI hD hS hA
      refine va_callv (va_runV (As := []) (rest := []) ⟨hx, hb, hml, hown, hts⟩ (tX7_wordLine l dC dI _ oM iM_thrown rM_tape fM_tape kM_tape iM_taped iM_size x_6605 x_6606 x_6607 x_6608 x_6609 x_6610 x_6611 iM_trouble rM_letters f_6613 kM_letters x_6612 iM_hasCourt rM_r rM_fresh fM_fresh kM_fresh rM_told rM_read fM_read kM_read rM_st rM_undone rM_kept iM_undos iM_images rM_fresher fM_fresher kM_fresher iM_fresherSize iM_scale iM_night rM_heardRow rM_cutRow iM_breaths iM_cutMany iM_allBreaths rM_trial rM_words iM_fewestBreaths iM_orderMany iM_orderSum iM_leastOrder rM_often iM_setMany iM_someOf iM_allOf iM_allWeight iM_enoughWeight iM_worthSum iM_firstRest iM_leastDrawn b_iM_taped b_iM_size b_x_6606 b_x_6609 b_x_6612 b_iM_hasCourt b_iM_undos b_iM_images b_iM_scale b_iM_breaths b_iM_cutMany e_x_6605_1 r_P (by intro h9; have q0 := kc_0; have q1 := kc_1; have q2 := kc_2; have q3 := kc_3; omega)) (cwV 0 hts (wd_V wd_458 wd_459 wd_460 wd_5 (wd_c wd_461)) rfl rfl rfl dv_yX7_wordLine_0 ⟨Nat.le_of_ble_eq_true rfl, Nat.le_of_ble_eq_true rfl⟩) ⟨Pw.fb, recvX7 hK hP (q0 := 0) rfl, fun U hU hW => Pw.to hP hD hK hE hS hFc hU hW⟩ rfl rfl hl.1 rfl (lv_room (Nat.le_of_ble_eq_true rfl)) dX7_readLine_42 ⟨Nat.le_of_ble_eq_true rfl, Nat.le_of_ble_eq_true rfl⟩) hS (fun q _ h => hFc q h) hFc (fun u t H locs ht hvm hw hB hz1 hk1 hS => ?_)
      refine ex_13_9 hB (fun x_6844 x_6845 x_6846 x_6847 x_6848 x_6849 x_6850 x_6851 x_6852 f_6853 f_6854 f_6855 f_6856 b_x_6845 b_x_6848 b_x_6851 e_x_6844_0 e_x_6844_1 e_x_6844_2 e_x_6844_3 e_x_6844_4 e_x_6844_5 hB => ?_)
      obtain ⟨hP, hD⟩ := Bw.goA (ws' := [(oc7 oM iM_thrown rM_tape iM_taped iM_size x_6844 x_6845 x_6846 x_6847 x_6848 x_6849 x_6850 iM_trouble rM_letters x_6851 iM_hasCourt rM_r rM_fresh rM_told rM_read rM_st rM_undone rM_kept iM_undos iM_images rM_fresher x_6852 iM_scale iM_night rM_heardRow rM_cutRow iM_breaths iM_cutMany iM_allBreaths rM_trial rM_words iM_fewestBreaths iM_orderMany iM_orderSum iM_leastOrder rM_often iM_setMany iM_someOf iM_allOf iM_allWeight iM_enoughWeight iM_worthSum iM_firstRest iM_leastDrawn), (arI rM_tape kM_tape 900 fM_tape), (arI rM_letters kM_letters 8 f_6853), (arI rM_fresh kM_fresh 287 f_6854), (arI rM_read kM_read 90 f_6855), (arI rM_fresher kM_fresher 8 f_6856)]) hB rfl ht hFc rfl
      clear hz1 hk1 hvm ht hB
      have pl_f_6854 := e_x_6844_4.lins
      have hG := hG.trans (un13_eq e_x_6844_5)
      clear e_x_6605_1
      clear e_x_6605_4
      refine lv_goto (tgt := 233) hx hb dX7_readLine_45 (by decide) ?_
      exact wq_v hx hb hr 0 trivial (fun t ht hW => ⟨x_6844, x_6845, x_6846, x_6847, x_6848, x_6849, x_6850, x_6851, x_6852, f_6853, f_6854, f_6855, f_6856, b_x_6845, b_x_6848, b_x_6851, (om_9348f5ae e_x_6605_0 e_x_6844_0), e_x_6844_1, (om_9348f5ae e_x_6605_2 e_x_6844_2), (fun h9 => (om_7ed234da e_x_6605_0 (e_x_6844_3 ⟨h9.1, h9.2⟩))), e_x_6844_4, hG, Bw.to hP hD hK ht hW⟩) hS dX7_readLine_233 hlocks
  · skip
    have hG := hG.trans (if_neg c_6601)
    have gc_6601 := ti_ne c_6601 rfl kc_0
    replace gc_6601 : (-1) * x_6600.toInt + 1 ≤ 0 := om_e3003f79 gc_6601 dx_6600.1
    have h_6857 : iM_token.toInt = 2 := lx_6600 (om_7907a7c1 dx_6600.2 gc_6601)
    clear lx_6600
    have h_6858 : iM_nameSize.toInt ≤ 8 := r_T h_6857
    clear r_T
    refine lv_aload_n hx hb dX7_readLine_9 rfl (lv_at hl 0 rfl) ?_
    have hMs := ml_of hD [true, true, true, true, true, false] (wc := [(oc7 oM iM_thrown rM_tape iM_taped iM_size iM_at iM_end iM_token iM_whole iM_nameSize iM_fault iM_place iM_trouble rM_letters iM_failed iM_hasCourt rM_r rM_fresh rM_told rM_read rM_st rM_undone rM_kept iM_undos iM_images rM_fresher iM_fresherSize iM_scale iM_night rM_heardRow rM_cutRow iM_breaths iM_cutMany iM_allBreaths rM_trial rM_words iM_fewestBreaths iM_orderMany iM_orderSum iM_leastOrder rM_often iM_setMany iM_someOf iM_allOf iM_allWeight iM_enoughWeight iM_worthSum iM_firstRest iM_leastDrawn), (arI rM_tape kM_tape 900 fM_tape), (arI rM_letters kM_letters 8 fM_letters), (arI rM_fresh kM_fresh 287 fM_fresh), (arI rM_read kM_read 90 fM_read)]) rfl
    have hFc := va_freeM hD hS hA _ hMs
    refine va_callv (va_runV (As := []) (rest := []) ⟨hx, hb, hml, hown, hts⟩ (tX7_courtLine l dC dI _ oM iM_thrown rM_tape fM_tape kM_tape iM_taped iM_size iM_at iM_end iM_token iM_whole iM_nameSize iM_fault iM_place iM_trouble rM_letters fM_letters kM_letters iM_failed iM_hasCourt rM_r rM_fresh fM_fresh kM_fresh rM_told rM_read fM_read kM_read rM_st rM_undone rM_kept iM_undos iM_images rM_fresher iM_fresherSize iM_scale iM_night rM_heardRow rM_cutRow iM_breaths iM_cutMany iM_allBreaths rM_trial rM_words iM_fewestBreaths iM_orderMany iM_orderSum iM_leastOrder rM_often iM_setMany iM_someOf iM_allOf iM_allWeight iM_enoughWeight iM_worthSum iM_firstRest iM_leastDrawn b_iM_taped b_iM_size b_iM_end b_iM_nameSize b_iM_failed b_iM_hasCourt b_iM_undos b_iM_images b_iM_scale b_iM_breaths b_iM_cutMany (fun h9 => h_6858) r_P) (cwV 0 hts (wd_V wd_426 wd_427 wd_428 wd_5 (wd_c wd_429)) rfl rfl rfl dv_yX7_courtLine_0 ⟨Nat.le_of_ble_eq_true rfl, Nat.le_of_ble_eq_true rfl⟩) ⟨Pw.fb, recvX7 hK hP (q0 := 0) rfl, fun U hU hW => Pw.to (hP.ms _ hMs) (hD.ms _ hMs) (hK.ms [true, true, true, true, false] rfl) hE hS hFc hU hW⟩ rfl rfl hl.1 rfl (lv_room (Nat.le_of_ble_eq_true rfl)) dX7_readLine_10 ⟨Nat.le_of_ble_eq_true rfl, Nat.le_of_ble_eq_true rfl⟩) hS (fun q _ h => hFc q h) hFc (fun u t H locs ht hvm hw hB hz1 hk1 hS => ?_)
    refine ex_10_9 hB (fun x_6859 x_6860 x_6861 x_6862 x_6863 x_6864 x_6865 x_6866 f_6867 f_6868 b_x_6860 b_x_6863 b_x_6866 e_x_6859_0 e_x_6859_1 e_x_6859_2 e_x_6859_3 e_x_6859_4 e_x_6859_5 hB => ?_)
    obtain ⟨hP, hD⟩ := Bw.goN (ws' := [(oc7 oM iM_thrown rM_tape iM_taped iM_size x_6859 x_6860 x_6861 x_6862 x_6863 x_6864 x_6865 iM_trouble rM_letters x_6866 iM_hasCourt rM_r rM_fresh rM_told rM_read rM_st rM_undone rM_kept iM_undos iM_images rM_fresher iM_fresherSize iM_scale iM_night rM_heardRow rM_cutRow iM_breaths iM_cutMany iM_allBreaths rM_trial rM_words iM_fewestBreaths iM_orderMany iM_orderSum iM_leastOrder rM_often iM_setMany iM_someOf iM_allOf iM_allWeight iM_enoughWeight iM_worthSum iM_firstRest iM_leastDrawn), (arI rM_tape kM_tape 900 fM_tape), (arI rM_letters kM_letters 8 f_6867), (arI rM_fresh kM_fresh 287 f_6868), (arI rM_read kM_read 90 fM_read), (arI rM_fresher kM_fresher 8 fM_fresher)]) hB rfl ht hP hD _ hMs hk1 hFc rfl
    clear hz1 hk1 hvm ht hB hMs
    have pl_f_6868 := e_x_6859_4.lins
    have hG := hG.trans (un10_eq e_x_6859_5)
    refine lv_goto (tgt := 233) hx hb dX7_readLine_13 (by decide) ?_
    exact wq_v hx hb hr 0 trivial (fun t ht hW => ⟨x_6859, x_6860, x_6861, x_6862, x_6863, x_6864, x_6865, x_6866, iM_fresherSize, f_6867, f_6868, fM_read, fM_fresher, b_x_6860, b_x_6863, b_x_6866, e_x_6859_0, e_x_6859_1, e_x_6859_2, e_x_6859_3, e_x_6859_4, hG, Bw.to hP hD hK ht hW⟩) hS dX7_readLine_233 hlocks
