set_option maxHeartbeats 4000000 in
set_option maxRecDepth 100000 in
theorem tX7_readLine (l : Launch) (dC : Nat → ClassId) (dI : Nat → Nat → Nat) (sz : Nat) (oM : Nat) (iM_thrown : Int32) (rM_tape : Nat) (fM_tape : Nat → Int32) (kM_tape : ClassId) (iM_taped : Int32) (iM_size : Int32) (iM_at : Int32) (iM_end : Int32) (iM_token : Int32) (iM_whole : Int32) (iM_nameSize : Int32) (iM_fault : Int32) (iM_place : Int32) (iM_trouble : Int32) (rM_letters : Nat) (fM_letters : Nat → Int32) (kM_letters : ClassId) (iM_failed : Int32) (iM_hasCourt : Int32) (rM_r : Nat) (rM_fresh : Nat) (fM_fresh : Nat → Int32) (kM_fresh : ClassId) (rM_told : Nat) (rM_read : Nat) (fM_read : Nat → Int32) (kM_read : ClassId) (rM_st : Nat) (rM_undone : Nat) (rM_kept : Nat) (iM_undos : Int32) (iM_images : Int32) (rM_fresher : Nat) (fM_fresher : Nat → Int32) (kM_fresher : ClassId) (iM_fresherSize : Int32) (iM_scale : Int32) (iM_night : Int32) (rM_heardRow : Nat) (rM_cutRow : Nat) (iM_breaths : Int32) (iM_cutMany : Int32) (iM_allBreaths : Int32) (rM_trial : Nat) (rM_words : Nat) (iM_fewestBreaths : Int32) (iM_orderMany : Int32) (iM_orderSum : Int32) (iM_leastOrder : Int32) (rM_often : Nat) (iM_setMany : Int32) (iM_someOf : Int32) (iM_allOf : Int32) (iM_allWeight : Int64) (iM_enoughWeight : Int64) (iM_worthSum : Int64) (iM_firstRest : Int32) (iM_leastDrawn : Int32) (b_iM_taped : 0 ≤ iM_taped.toInt ∧ iM_taped.toInt ≤ 900) (b_iM_size : 0 ≤ iM_size.toInt ∧ iM_size.toInt ≤ 900) (b_iM_end : 0 ≤ iM_end.toInt ∧ iM_end.toInt ≤ 900) (b_iM_nameSize : 0 ≤ iM_nameSize.toInt ∧ iM_nameSize.toInt ≤ 900) (b_iM_failed : 0 ≤ iM_failed.toInt ∧ iM_failed.toInt ≤ 1) (b_iM_hasCourt : 0 ≤ iM_hasCourt.toInt ∧ iM_hasCourt.toInt ≤ 1) (b_iM_undos : 0 ≤ iM_undos.toInt ∧ iM_undos.toInt ≤ 16) (b_iM_images : 0 ≤ iM_images.toInt ∧ iM_images.toInt ≤ 3) (b_iM_scale : 1 ≤ iM_scale.toInt ∧ iM_scale.toInt ≤ 1296) (b_iM_breaths : 0 ≤ iM_breaths.toInt ∧ iM_breaths.toInt ≤ 399) (b_iM_cutMany : 0 ≤ iM_cutMany.toInt ∧ iM_cutMany.toInt ≤ 399) (r_T : ImpP (iM_token.toInt = 2) (iM_nameSize.toInt ≤ 8)) (r_P : POk fM_fresh fM_read)  : Met l yX7_readLine (Cond.code yX7_readLine cX7_readLine 1 none :: wG) ({ frames := 9, cells := 0, slots := 0, locals := 220 }) (va_Pc [.ref oM] (Pw dC dI sz [(oc7 oM iM_thrown rM_tape iM_taped iM_size iM_at iM_end iM_token iM_whole iM_nameSize iM_fault iM_place iM_trouble rM_letters iM_failed iM_hasCourt rM_r rM_fresh rM_told rM_read rM_st rM_undone rM_kept iM_undos iM_images rM_fresher iM_fresherSize iM_scale iM_night rM_heardRow rM_cutRow iM_breaths iM_cutMany iM_allBreaths rM_trial rM_words iM_fewestBreaths iM_orderMany iM_orderSum iM_leastOrder rM_often iM_setMany iM_someOf iM_allOf iM_allWeight iM_enoughWeight iM_worthSum iM_firstRest iM_leastDrawn), (arI rM_tape kM_tape 900 fM_tape), (arI rM_letters kM_letters 8 fM_letters), (arI rM_fresh kM_fresh 287 fM_fresh), (arI rM_read kM_read 90 fM_read), (arI rM_fresher kM_fresher 8 fM_fresher)] [(kM_tape, .int), (kM_letters, .int), (kM_fresh, .int), (kM_read, .int), (kM_fresher, .int)])) (va_Qv (fun (_ : Nat) => True) (fun (_ : Nat) (t : State) => ∃ (niM_at : Int32) (niM_end : Int32) (niM_token : Int32) (niM_whole : Int32) (niM_nameSize : Int32) (niM_fault : Int32) (niM_place : Int32) (niM_failed : Int32) (niM_fresherSize : Int32) (nfM_letters : Nat → Int32) (nfM_fresh : Nat → Int32) (nfM_read : Nat → Int32) (nfM_fresher : Nat → Int32), (0 ≤ niM_end.toInt ∧ niM_end.toInt ≤ 900) ∧ (0 ≤ niM_nameSize.toInt ∧ niM_nameSize.toInt ≤ 900) ∧ (0 ≤ niM_failed.toInt ∧ niM_failed.toInt ≤ 1) ∧ (iM_end.toInt ≤ niM_end.toInt) ∧ (ImpP (niM_token.toInt = 2) (niM_nameSize.toInt ≤ 8)) ∧ (iM_failed.toInt ≤ niM_failed.toInt) ∧ (ImpP (niM_failed.toInt ≤ 0 ∧ niM_token.toInt = 59 ) (iM_end.toInt + 1 ≤ niM_end.toInt)) ∧ (POk nfM_fresh nfM_read) ∧ (PX7_readLine fM_tape iM_size iM_at iM_end iM_token iM_whole iM_nameSize iM_fault iM_place fM_letters iM_failed fM_fresh fM_read fM_fresher iM_fresherSize = (niM_at, niM_end, niM_token, niM_whole, niM_nameSize, niM_fault, niM_place, niM_failed, niM_fresherSize, nfM_letters, nfM_fresh, nfM_read, nfM_fresher)) ∧ Bw dC dI (va_A [(oc7 oM iM_thrown rM_tape iM_taped iM_size iM_at iM_end iM_token iM_whole iM_nameSize iM_fault iM_place iM_trouble rM_letters iM_failed iM_hasCourt rM_r rM_fresh rM_told rM_read rM_st rM_undone rM_kept iM_undos iM_images rM_fresher iM_fresherSize iM_scale iM_night rM_heardRow rM_cutRow iM_breaths iM_cutMany iM_allBreaths rM_trial rM_words iM_fewestBreaths iM_orderMany iM_orderSum iM_leastOrder rM_often iM_setMany iM_someOf iM_allOf iM_allWeight iM_enoughWeight iM_worthSum iM_firstRest iM_leastDrawn), (arI rM_tape kM_tape 900 fM_tape), (arI rM_letters kM_letters 8 fM_letters), (arI rM_fresh kM_fresh 287 fM_fresh), (arI rM_read kM_read 90 fM_read), (arI rM_fresher kM_fresher 8 fM_fresher)] sz) [(oc7 oM iM_thrown rM_tape iM_taped iM_size niM_at niM_end niM_token niM_whole niM_nameSize niM_fault niM_place iM_trouble rM_letters niM_failed iM_hasCourt rM_r rM_fresh rM_told rM_read rM_st rM_undone rM_kept iM_undos iM_images rM_fresher niM_fresherSize iM_scale iM_night rM_heardRow rM_cutRow iM_breaths iM_cutMany iM_allBreaths rM_trial rM_words iM_fewestBreaths iM_orderMany iM_orderSum iM_leastOrder rM_often iM_setMany iM_someOf iM_allOf iM_allWeight iM_enoughWeight iM_worthSum iM_firstRest iM_leastDrawn), (arI rM_tape kM_tape 900 fM_tape), (arI rM_letters kM_letters 8 nfM_letters), (arI rM_fresh kM_fresh 287 nfM_fresh), (arI rM_read kM_read 90 nfM_read), (arI rM_fresher kM_fresher 8 nfM_fresher)] [(kM_tape, .int), (kM_letters, .int), (kM_fresh, .int), (kM_read, .int), (kM_fresher, .int)] t) (va_A [(oc7 oM iM_thrown rM_tape iM_taped iM_size iM_at iM_end iM_token iM_whole iM_nameSize iM_fault iM_place iM_trouble rM_letters iM_failed iM_hasCourt rM_r rM_fresh rM_told rM_read rM_st rM_undone rM_kept iM_undos iM_images rM_fresher iM_fresherSize iM_scale iM_night rM_heardRow rM_cutRow iM_breaths iM_cutMany iM_allBreaths rM_trial rM_words iM_fewestBreaths iM_orderMany iM_orderSum iM_leastOrder rM_often iM_setMany iM_someOf iM_allOf iM_allWeight iM_enoughWeight iM_worthSum iM_firstRest iM_leastDrawn), (arI rM_tape kM_tape 900 fM_tape), (arI rM_letters kM_letters 8 fM_letters), (arI rM_fresh kM_fresh 287 fM_fresh), (arI rM_read kM_read 90 fM_read), (arI rM_fresher kM_fresher 8 fM_fresher)] sz)) 0 0 (va_A [(oc7 oM iM_thrown rM_tape iM_taped iM_size iM_at iM_end iM_token iM_whole iM_nameSize iM_fault iM_place iM_trouble rM_letters iM_failed iM_hasCourt rM_r rM_fresh rM_told rM_read rM_st rM_undone rM_kept iM_undos iM_images rM_fresher iM_fresherSize iM_scale iM_night rM_heardRow rM_cutRow iM_breaths iM_cutMany iM_allBreaths rM_trial rM_words iM_fewestBreaths iM_orderMany iM_orderSum iM_leastOrder rM_often iM_setMany iM_someOf iM_allOf iM_allWeight iM_enoughWeight iM_worthSum iM_firstRest iM_leastDrawn), (arI rM_tape kM_tape 900 fM_tape), (arI rM_letters kM_letters 8 fM_letters), (arI rM_fresh kM_fresh 287 fM_fresh), (arI rM_read kM_read 90 fM_read), (arI rM_fresher kM_fresher 8 fM_fresher)] sz) := by
  refine Met.ofW (cc := cX7_readLine) (maxL := 1) (ret := none) pnX7 rfl ?_
  intro p e s m args below meth c s₁ B hml hv
  obtain ⟨rfl, hsz, hP, hK, hD0, hE⟩ := hv
  have hx := B.exec
  have hb := B.bytes
  have hr := B.returns
  have hts : ∀ w ∈ wG, w.before ([.ref oM] : List Value).toArray s = true := fun w h => atoms_spec (ws := Cond.code yX7_readLine cX7_readLine 1 none :: wG) B.pre w (List.mem_cons_of_mem _ h)
  have hown : s.vm.findClass RX7 = some m.cls := own_of B.named rfl
  have hlocks := B.notSynchronized
  subst hsz
  have hD := hD0.self (sz := s.heap.size)
  generalize hAe : va_A [(oc7 oM iM_thrown rM_tape iM_taped iM_size iM_at iM_end iM_token iM_whole iM_nameSize iM_fault iM_place iM_trouble rM_letters iM_failed iM_hasCourt rM_r rM_fresh rM_told rM_read rM_st rM_undone rM_kept iM_undos iM_images rM_fresher iM_fresherSize iM_scale iM_night rM_heardRow rM_cutRow iM_breaths iM_cutMany iM_allBreaths rM_trial rM_words iM_fewestBreaths iM_orderMany iM_orderSum iM_leastOrder rM_often iM_setMany iM_someOf iM_allOf iM_allWeight iM_enoughWeight iM_worthSum iM_firstRest iM_leastDrawn), (arI rM_tape kM_tape 900 fM_tape), (arI rM_letters kM_letters 8 fM_letters), (arI rM_fresh kM_fresh 287 fM_fresh), (arI rM_read kM_read 90 fM_read), (arI rM_fresher kM_fresher 8 fM_fresher)] s.heap.size = A at hD hE ⊢
  have hA : ∀ q : Nat, s.heap.size ≤ q → A q := fun q h => by rw [← hAe]; exact Or.inr h
  have hS : va_S A s.heap s.heap [] := va_S.rf
  have hl := lv_entry ([.ref oM]) (n := 1) (Nat.le_of_ble_eq_true rfl)
  rw [lg_entry_eq]
  generalize (lg_sl ([.ref oM]) ++ List.replicate (1 - (lg_sl ([.ref oM])).length) Slot.unset).toArray = ls at hl ⊢
  have hl : lv_has ls 1 [(0, .ref oM)] := hl
  have hG := PX7_readLine_eq fM_tape iM_size iM_at iM_end iM_token iM_whole iM_nameSize iM_fault iM_place fM_letters iM_failed fM_fresh fM_read fM_fresher iM_fresherSize
  have pl_fM_fresh := r_P.lins
  refine lv_aload_n hx hb dX7_readLine_0 rfl (lv_at hl 0 rfl) ?_
  obtain ⟨sa_6597, vsa_6597, nsa_6597, fsa_6597, hnsa_6597, hnesa_6597, hfesa_6597, hRsa_6597, hSsa_6597⟩ := hE.2.2.1 (134, "court", [99, 111, 117, 114, 116]) (by decide)
  have hG := hG.trans (lt_eq hnesa_6597)
  have hG := hG.trans (lt_eq hfesa_6597)
  refine va_ldcS hx hb hown hRsa_6597 dX7_readLine_1 ?_
  have hMs := ml_of hD [true, false, true, false, false, false] (wc := [(oc7 oM iM_thrown rM_tape iM_taped iM_size iM_at iM_end iM_token iM_whole iM_nameSize iM_fault iM_place iM_trouble rM_letters iM_failed iM_hasCourt rM_r rM_fresh rM_told rM_read rM_st rM_undone rM_kept iM_undos iM_images rM_fresher iM_fresherSize iM_scale iM_night rM_heardRow rM_cutRow iM_breaths iM_cutMany iM_allBreaths rM_trial rM_words iM_fewestBreaths iM_orderMany iM_orderSum iM_leastOrder rM_often iM_setMany iM_someOf iM_allOf iM_allWeight iM_enoughWeight iM_worthSum iM_firstRest iM_leastDrawn), (arI rM_letters kM_letters 8 fM_letters)]) rfl
  have hFc := va_freeM hD hS hA _ hMs
  refine va_calli (va_runV (As := [.ref sa_6597]) (rest := []) ⟨hx, hb, hml, hown, hts⟩ (tX7_isWord l dC dI _ oM iM_thrown rM_tape iM_taped iM_size iM_at iM_end iM_token iM_whole iM_nameSize iM_fault iM_place iM_trouble rM_letters fM_letters kM_letters iM_failed iM_hasCourt rM_r rM_fresh rM_told rM_read rM_st rM_undone rM_kept iM_undos iM_images rM_fresher iM_fresherSize iM_scale iM_night rM_heardRow rM_cutRow iM_breaths iM_cutMany iM_allBreaths rM_trial rM_words iM_fewestBreaths iM_orderMany iM_orderSum iM_leastOrder rM_often iM_setMany iM_someOf iM_allOf iM_allWeight iM_enoughWeight iM_worthSum iM_firstRest iM_leastDrawn sa_6597 vsa_6597 nsa_6597 fsa_6597 b_iM_taped b_iM_size b_iM_end b_iM_nameSize b_iM_failed b_iM_hasCourt b_iM_undos b_iM_images b_iM_scale b_iM_breaths b_iM_cutMany r_T (Nat.le_trans (Nat.le_of_eq hnesa_6597) (by decide))) (cwV 1 hts (wd_V wd_420 wd_421 wd_422 wd_5 (wd_c wd_423)) rfl rfl rfl dv_yX7_isWord_1 ⟨Nat.le_of_ble_eq_true rfl, Nat.le_of_ble_eq_true rfl⟩) ⟨Pq.fb, recvX7 hK hP (q0 := 0) rfl, fun U hU hW => Pq.to (hP.ms _ hMs) (hD.ms _ hMs) (hK.ms [false, true, false, false, false] rfl) hSsa_6597 hE hS hFc hU hW⟩ rfl rfl hl.1 rfl (lv_room (Nat.le_of_ble_eq_true rfl)) dX7_readLine_3 ⟨Nat.le_of_ble_eq_true rfl, Nat.le_of_ble_eq_true rfl⟩) hS (fun q _ h => hFc q h) hFc (fun r u t H locs ht hvm hw hB hz1 hk1 hS => ?_)
  have hru9 := hw.2
  have hw := hw.1
  obtain ⟨hP, hD⟩ := Bw.goN (ws' := [(oc7 oM iM_thrown rM_tape iM_taped iM_size iM_at iM_end iM_token iM_whole iM_nameSize iM_fault iM_place iM_trouble rM_letters iM_failed iM_hasCourt rM_r rM_fresh rM_told rM_read rM_st rM_undone rM_kept iM_undos iM_images rM_fresher iM_fresherSize iM_scale iM_night rM_heardRow rM_cutRow iM_breaths iM_cutMany iM_allBreaths rM_trial rM_words iM_fewestBreaths iM_orderMany iM_orderSum iM_leastOrder rM_often iM_setMany iM_someOf iM_allOf iM_allWeight iM_enoughWeight iM_worthSum iM_firstRest iM_leastDrawn), (arI rM_tape kM_tape 900 fM_tape), (arI rM_letters kM_letters 8 fM_letters), (arI rM_fresh kM_fresh 287 fM_fresh), (arI rM_read kM_read 90 fM_read), (arI rM_fresher kM_fresher 8 fM_fresher)]) hB rfl ht hP hD _ hMs hk1 hFc rfl
  clear hz1 hk1 hvm ht hB hMs
  obtain ⟨x_6598, rfl⟩ : ∃ z, z = r := ⟨_, rfl⟩
  have hG := hG.trans (lt_eq hru9.symm)
  have bx_6598 := hw.1
  have dx_6598 := bz_tb bx_6598
  have lx_6598 := hw.2
  refine lv_if_eq (tgt := 16) hx hb dX7_readLine_6 (by decide) (fun c_6599 => ?_) (fun c_6599 => ?_)
  · skip
    have hG := hG.trans (if_pos c_6599)
    have gc_6599 := ti_eq c_6599 rfl kc_0
    clear lx_6598
    refine lv_aload_n hx hb dX7_readLine_16 rfl (lv_at hl 0 rfl) ?_
    obtain ⟨sa_6600, vsa_6600, nsa_6600, fsa_6600, hnsa_6600, hnesa_6600, hfesa_6600, hRsa_6600, hSsa_6600⟩ := hE.2.2.1 (136, "word", [119, 111, 114, 100]) (by decide)
    have hG := hG.trans (lt_eq hnesa_6600)
    have hG := hG.trans (lt_eq hfesa_6600)
    refine va_ldcS hx hb hown hRsa_6600 dX7_readLine_17 ?_
    refine lv_aload_n hx hb dX7_readLine_19 rfl (lv_at hl 0 rfl) ?_
    refine va_get (D := (dC, dI)) (ci := 7) (v := .ref rM_fresh) (C := RX7) (T := TX7) (N := 48) hx hb hts inX7 hown hK hP 0 rfl rfl 16 (by decide) (hts _ wd_156) (fun _ h9 => h9) rfl dX7_readLine_20 ?_
    refine lv_iconst (v := 2) hx hb dX7_readLine_23 (by decide) ?_
    refine va_iald hx hb hK hP 3 2 rfl rfl (by unfold vp_in; decide) dX7_readLine_24 ?_
    refine lv_topi (fun x_6601 ex_6601 => ?_)
    have hG := hG.trans (lt_eq ex_6601)
    have cx_6601 : (fM_fresh 2).toInt = x_6601.toInt := congrArg Int32.toInt (show fM_fresh 2 = x_6601 from ex_6601.symm)
    refine lv_bipush (v := 10) hx hb dX7_readLine_25 (by decide) ?_
    refine vz_jgeX hx hb dX7_readLine_27 dX7_readLine_30 dX7_readLine_31 dX7_readLine_34 (fun x_6602 ex_6602 b_x_6602 j_x_6602 => ?_)
    have hG := hG.trans (lt_eq ex_6602)
    have j_x_6602 : 1 ≤ x_6602.toInt → x_6601.toInt < 10 := fun h9 => by have h8 := j_x_6602 h9; rw [kc_10] at h8; exact h8
    have hMs := ml_of hD [true, true, true, true, true, false] (wc := [(oc7 oM iM_thrown rM_tape iM_taped iM_size iM_at iM_end iM_token iM_whole iM_nameSize iM_fault iM_place iM_trouble rM_letters iM_failed iM_hasCourt rM_r rM_fresh rM_told rM_read rM_st rM_undone rM_kept iM_undos iM_images rM_fresher iM_fresherSize iM_scale iM_night rM_heardRow rM_cutRow iM_breaths iM_cutMany iM_allBreaths rM_trial rM_words iM_fewestBreaths iM_orderMany iM_orderSum iM_leastOrder rM_often iM_setMany iM_someOf iM_allOf iM_allWeight iM_enoughWeight iM_worthSum iM_firstRest iM_leastDrawn), (arI rM_tape kM_tape 900 fM_tape), (arI rM_letters kM_letters 8 fM_letters), (arI rM_fresh kM_fresh 287 fM_fresh), (arI rM_read kM_read 90 fM_read)]) rfl
    have hFc := va_freeM hD hS hA _ hMs
    refine va_calli (va_runV (As := [.ref sa_6600, .int x_6602]) (rest := []) ⟨hx, hb, hml, hown, hts⟩ (tX7_begins l dC dI _ oM iM_thrown rM_tape fM_tape kM_tape iM_taped iM_size iM_at iM_end iM_token iM_whole iM_nameSize iM_fault iM_place iM_trouble rM_letters fM_letters kM_letters iM_failed iM_hasCourt rM_r rM_fresh fM_fresh kM_fresh rM_told rM_read fM_read kM_read rM_st rM_undone rM_kept iM_undos iM_images rM_fresher iM_fresherSize iM_scale iM_night rM_heardRow rM_cutRow iM_breaths iM_cutMany iM_allBreaths rM_trial rM_words iM_fewestBreaths iM_orderMany iM_orderSum iM_leastOrder rM_often iM_setMany iM_someOf iM_allOf iM_allWeight iM_enoughWeight iM_worthSum iM_firstRest iM_leastDrawn sa_6600 x_6602 vsa_6600 nsa_6600 fsa_6600 b_iM_taped b_iM_size b_iM_end b_iM_nameSize b_iM_failed b_iM_hasCourt b_iM_undos b_iM_images b_iM_scale b_iM_breaths b_iM_cutMany r_T r_P (Nat.le_trans (Nat.le_of_eq hnesa_6600) (by decide)) (by first | assumption | (have q0 := kc_0; have q1 := kc_1; first | exact ⟨by omega, by omega⟩ | omega) | decide | (intro h; exact absurd h (by decide)))) (cwV 2 hts (wd_V wd_450 wd_451 wd_452 wd_5 (wd_c wd_453)) rfl rfl rfl dv_yX7_begins_2 ⟨Nat.le_of_ble_eq_true rfl, Nat.le_of_ble_eq_true rfl⟩) ⟨Pq.fb, recvX7 hK hP (q0 := 0) rfl, fun U hU hW => Pq.to (hP.ms _ hMs) (hD.ms _ hMs) (hK.ms [true, true, true, true, false] rfl) hSsa_6600 hE hS hFc hU hW⟩ rfl rfl hl.1 rfl (lv_room (Nat.le_of_ble_eq_true rfl)) dX7_readLine_35 ⟨Nat.le_of_ble_eq_true rfl, Nat.le_of_ble_eq_true rfl⟩) hS (fun q _ h => hFc q h) hFc (fun r u t H locs ht hvm hw hB hz1 hk1 hS => ?_)
    have hru9 := hw.2
    have hw := hw.1
    refine ex_9_9 hB (fun x_6603 x_6604 x_6605 x_6606 x_6607 x_6608 x_6609 x_6610 f_6611 b_x_6604 b_x_6607 b_x_6610 e_x_6603_0 e_x_6603_1 e_x_6603_2 e_x_6603_3 e_x_6603_4 e_x_6603_5 hB => ?_)
    obtain ⟨hP, hD⟩ := Bw.goN (ws' := [(oc7 oM iM_thrown rM_tape iM_taped iM_size x_6603 x_6604 x_6605 x_6606 x_6607 x_6608 x_6609 iM_trouble rM_letters x_6610 iM_hasCourt rM_r rM_fresh rM_told rM_read rM_st rM_undone rM_kept iM_undos iM_images rM_fresher iM_fresherSize iM_scale iM_night rM_heardRow rM_cutRow iM_breaths iM_cutMany iM_allBreaths rM_trial rM_words iM_fewestBreaths iM_orderMany iM_orderSum iM_leastOrder rM_often iM_setMany iM_someOf iM_allOf iM_allWeight iM_enoughWeight iM_worthSum iM_firstRest iM_leastDrawn), (arI rM_tape kM_tape 900 fM_tape), (arI rM_letters kM_letters 8 f_6611), (arI rM_fresh kM_fresh 287 fM_fresh), (arI rM_read kM_read 90 fM_read), (arI rM_fresher kM_fresher 8 fM_fresher)]) hB rfl ht hP hD _ hMs hk1 hFc rfl
    clear hz1 hk1 hvm ht hB hMs
    rw [← hru9] at e_x_6603_5
    obtain ⟨x_6612, rfl⟩ : ∃ z, z = r := ⟨_, rfl⟩
    have hG := hG.trans (un10_eq e_x_6603_5)
    have bx_6612 := hw.1
    have dx_6612 := bz_tb bx_6612
    have lx_6612 := hw.2
    clear r_T
    refine lv_if_eq (tgt := 48) hx hb dX7_readLine_38 (by decide) (fun c_6613 => ?_) (fun c_6613 => ?_)
    · skip
      have hG := hG.trans (if_pos c_6613)
      have gc_6613 := ti_eq c_6613 rfl kc_0
      clear e_x_6603_3
      refine lv_aload_n hx hb dX7_readLine_48 rfl (lv_at hl 0 rfl) ?_
      obtain ⟨sa_6614, vsa_6614, nsa_6614, fsa_6614, hnsa_6614, hnesa_6614, hfesa_6614, hRsa_6614, hSsa_6614⟩ := hE.2.2.1 (138, "king", [107, 105, 110, 103]) (by decide)
      have hG := hG.trans (lt_eq hnesa_6614)
      have hG := hG.trans (lt_eq hfesa_6614)
      refine va_ldcS hx hb hown hRsa_6614 dX7_readLine_49 ?_
      refine lv_aload_n hx hb dX7_readLine_51 rfl (lv_at hl 0 rfl) ?_
      refine va_get (D := (dC, dI)) (ci := 7) (v := .ref rM_fresh) (C := RX7) (T := TX7) (N := 48) hx hb hts inX7 hown hK hP 0 rfl rfl 16 (by decide) (hts _ wd_156) (fun _ h9 => h9) rfl dX7_readLine_52 ?_
      refine lv_bipush (v := 7) hx hb dX7_readLine_55 (by decide) ?_
      refine va_iald hx hb hK hP 3 2 rfl rfl (by unfold vp_in; decide) dX7_readLine_57 ?_
      refine lv_topi (fun x_6615 ex_6615 => ?_)
      have hG := hG.trans (lt_eq ex_6615)
      have cx_6615 : (fM_fresh 7).toInt = x_6615.toInt := congrArg Int32.toInt (show fM_fresh 7 = x_6615 from ex_6615.symm)
      refine lv_bipush (v := 8) hx hb dX7_readLine_58 (by decide) ?_
      refine vz_jgeX hx hb dX7_readLine_60 dX7_readLine_63 dX7_readLine_64 dX7_readLine_67 (fun x_6616 ex_6616 b_x_6616 j_x_6616 => ?_)
      have hG := hG.trans (lt_eq ex_6616)
      have j_x_6616 : 1 ≤ x_6616.toInt → x_6615.toInt < 8 := fun h9 => by have h8 := j_x_6616 h9; rw [kc_8] at h8; exact h8
      have hMs := ml_of hD [true, true, true, true, true, false] (wc := [(oc7 oM iM_thrown rM_tape iM_taped iM_size x_6603 x_6604 x_6605 x_6606 x_6607 x_6608 x_6609 iM_trouble rM_letters x_6610 iM_hasCourt rM_r rM_fresh rM_told rM_read rM_st rM_undone rM_kept iM_undos iM_images rM_fresher iM_fresherSize iM_scale iM_night rM_heardRow rM_cutRow iM_breaths iM_cutMany iM_allBreaths rM_trial rM_words iM_fewestBreaths iM_orderMany iM_orderSum iM_leastOrder rM_often iM_setMany iM_someOf iM_allOf iM_allWeight iM_enoughWeight iM_worthSum iM_firstRest iM_leastDrawn), (arI rM_tape kM_tape 900 fM_tape), (arI rM_letters kM_letters 8 f_6611), (arI rM_fresh kM_fresh 287 fM_fresh), (arI rM_read kM_read 90 fM_read)]) rfl
      have hFc := va_freeM hD hS hA _ hMs
      refine va_calli (va_runV (As := [.ref sa_6614, .int x_6616]) (rest := []) ⟨hx, hb, hml, hown, hts⟩ (tX7_begins l dC dI _ oM iM_thrown rM_tape fM_tape kM_tape iM_taped iM_size x_6603 x_6604 x_6605 x_6606 x_6607 x_6608 x_6609 iM_trouble rM_letters f_6611 kM_letters x_6610 iM_hasCourt rM_r rM_fresh fM_fresh kM_fresh rM_told rM_read fM_read kM_read rM_st rM_undone rM_kept iM_undos iM_images rM_fresher iM_fresherSize iM_scale iM_night rM_heardRow rM_cutRow iM_breaths iM_cutMany iM_allBreaths rM_trial rM_words iM_fewestBreaths iM_orderMany iM_orderSum iM_leastOrder rM_often iM_setMany iM_someOf iM_allOf iM_allWeight iM_enoughWeight iM_worthSum iM_firstRest iM_leastDrawn sa_6614 x_6616 vsa_6614 nsa_6614 fsa_6614 b_iM_taped b_iM_size b_x_6604 b_x_6607 b_x_6610 b_iM_hasCourt b_iM_undos b_iM_images b_iM_scale b_iM_breaths b_iM_cutMany e_x_6603_1 r_P (Nat.le_trans (Nat.le_of_eq hnesa_6614) (by decide)) (by first | assumption | (have q0 := kc_0; have q1 := kc_1; first | exact ⟨by omega, by omega⟩ | omega) | decide | (intro h; exact absurd h (by decide)))) (cwV 2 hts (wd_V wd_450 wd_451 wd_452 wd_5 (wd_c wd_453)) rfl rfl rfl dv_yX7_begins_2 ⟨Nat.le_of_ble_eq_true rfl, Nat.le_of_ble_eq_true rfl⟩) ⟨Pq.fb, recvX7 hK hP (q0 := 0) rfl, fun U hU hW => Pq.to (hP.ms _ hMs) (hD.ms _ hMs) (hK.ms [true, true, true, true, false] rfl) hSsa_6614 hE hS hFc hU hW⟩ rfl rfl hl.1 rfl (lv_room (Nat.le_of_ble_eq_true rfl)) dX7_readLine_68 ⟨Nat.le_of_ble_eq_true rfl, Nat.le_of_ble_eq_true rfl⟩) hS (fun q _ h => hFc q h) hFc (fun r u t H locs ht hvm hw hB hz1 hk1 hS => ?_)
      have hru9 := hw.2
      have hw := hw.1
      refine ex_9_9 hB (fun x_6617 x_6618 x_6619 x_6620 x_6621 x_6622 x_6623 x_6624 f_6625 b_x_6618 b_x_6621 b_x_6624 e_x_6617_0 e_x_6617_1 e_x_6617_2 e_x_6617_3 e_x_6617_4 e_x_6617_5 hB => ?_)
      obtain ⟨hP, hD⟩ := Bw.goN (ws' := [(oc7 oM iM_thrown rM_tape iM_taped iM_size x_6617 x_6618 x_6619 x_6620 x_6621 x_6622 x_6623 iM_trouble rM_letters x_6624 iM_hasCourt rM_r rM_fresh rM_told rM_read rM_st rM_undone rM_kept iM_undos iM_images rM_fresher iM_fresherSize iM_scale iM_night rM_heardRow rM_cutRow iM_breaths iM_cutMany iM_allBreaths rM_trial rM_words iM_fewestBreaths iM_orderMany iM_orderSum iM_leastOrder rM_often iM_setMany iM_someOf iM_allOf iM_allWeight iM_enoughWeight iM_worthSum iM_firstRest iM_leastDrawn), (arI rM_tape kM_tape 900 fM_tape), (arI rM_letters kM_letters 8 f_6625), (arI rM_fresh kM_fresh 287 fM_fresh), (arI rM_read kM_read 90 fM_read), (arI rM_fresher kM_fresher 8 fM_fresher)]) hB rfl ht hP hD _ hMs hk1 hFc rfl
      clear hz1 hk1 hvm ht hB hMs
      rw [← hru9] at e_x_6617_5
      obtain ⟨x_6626, rfl⟩ : ∃ z, z = r := ⟨_, rfl⟩
      have hG := hG.trans (un10_eq e_x_6617_5)
      have bx_6626 := hw.1
      have dx_6626 := bz_tb bx_6626
      have lx_6626 := hw.2
      clear e_x_6603_1
      clear e_x_6603_4
      refine lv_if_eq (tgt := 82) hx hb dX7_readLine_71 (by decide) (fun c_6627 => ?_) (fun c_6627 => ?_)
      · skip
        have hG := hG.trans (if_pos c_6627)
        have gc_6627 := ti_eq c_6627 rfl kc_0
        clear e_x_6617_3
        refine lv_aload_n hx hb dX7_readLine_82 rfl (lv_at hl 0 rfl) ?_
        obtain ⟨sa_6628, vsa_6628, nsa_6628, fsa_6628, hnsa_6628, hnesa_6628, hfesa_6628, hRsa_6628, hSsa_6628⟩ := hE.2.2.1 (140, "queen", [113, 117, 101, 101, 110]) (by decide)
        have hG := hG.trans (lt_eq hnesa_6628)
        have hG := hG.trans (lt_eq hfesa_6628)
        refine va_ldcS hx hb hown hRsa_6628 dX7_readLine_83 ?_
        refine lv_aload_n hx hb dX7_readLine_85 rfl (lv_at hl 0 rfl) ?_
        refine va_get (D := (dC, dI)) (ci := 7) (v := .ref rM_fresh) (C := RX7) (T := TX7) (N := 48) hx hb hts inX7 hown hK hP 0 rfl rfl 16 (by decide) (hts _ wd_156) (fun _ h9 => h9) rfl dX7_readLine_86 ?_
        refine lv_bipush (v := 7) hx hb dX7_readLine_89 (by decide) ?_
        refine va_iald hx hb hK hP 3 2 rfl rfl (by unfold vp_in; decide) dX7_readLine_91 ?_
        refine lv_topi (fun x_6629 ex_6629 => ?_)
        have hG := hG.trans (lt_eq ex_6629)
        have cx_6629 : (fM_fresh 7).toInt = x_6629.toInt := congrArg Int32.toInt (show fM_fresh 7 = x_6629 from ex_6629.symm)
        refine lv_bipush (v := 8) hx hb dX7_readLine_92 (by decide) ?_
        refine vz_jgeX hx hb dX7_readLine_94 dX7_readLine_97 dX7_readLine_98 dX7_readLine_101 (fun x_6630 ex_6630 b_x_6630 j_x_6630 => ?_)
        have hG := hG.trans (lt_eq ex_6630)
        have j_x_6630 : 1 ≤ x_6630.toInt → x_6629.toInt < 8 := fun h9 => by have h8 := j_x_6630 h9; rw [kc_8] at h8; exact h8
        have hMs := ml_of hD [true, true, true, true, true, false] (wc := [(oc7 oM iM_thrown rM_tape iM_taped iM_size x_6617 x_6618 x_6619 x_6620 x_6621 x_6622 x_6623 iM_trouble rM_letters x_6624 iM_hasCourt rM_r rM_fresh rM_told rM_read rM_st rM_undone rM_kept iM_undos iM_images rM_fresher iM_fresherSize iM_scale iM_night rM_heardRow rM_cutRow iM_breaths iM_cutMany iM_allBreaths rM_trial rM_words iM_fewestBreaths iM_orderMany iM_orderSum iM_leastOrder rM_often iM_setMany iM_someOf iM_allOf iM_allWeight iM_enoughWeight iM_worthSum iM_firstRest iM_leastDrawn), (arI rM_tape kM_tape 900 fM_tape), (arI rM_letters kM_letters 8 f_6625), (arI rM_fresh kM_fresh 287 fM_fresh), (arI rM_read kM_read 90 fM_read)]) rfl
        have hFc := va_freeM hD hS hA _ hMs
        refine va_calli (va_runV (As := [.ref sa_6628, .int x_6630]) (rest := []) ⟨hx, hb, hml, hown, hts⟩ (tX7_begins l dC dI _ oM iM_thrown rM_tape fM_tape kM_tape iM_taped iM_size x_6617 x_6618 x_6619 x_6620 x_6621 x_6622 x_6623 iM_trouble rM_letters f_6625 kM_letters x_6624 iM_hasCourt rM_r rM_fresh fM_fresh kM_fresh rM_told rM_read fM_read kM_read rM_st rM_undone rM_kept iM_undos iM_images rM_fresher iM_fresherSize iM_scale iM_night rM_heardRow rM_cutRow iM_breaths iM_cutMany iM_allBreaths rM_trial rM_words iM_fewestBreaths iM_orderMany iM_orderSum iM_leastOrder rM_often iM_setMany iM_someOf iM_allOf iM_allWeight iM_enoughWeight iM_worthSum iM_firstRest iM_leastDrawn sa_6628 x_6630 vsa_6628 nsa_6628 fsa_6628 b_iM_taped b_iM_size b_x_6618 b_x_6621 b_x_6624 b_iM_hasCourt b_iM_undos b_iM_images b_iM_scale b_iM_breaths b_iM_cutMany e_x_6617_1 r_P (Nat.le_trans (Nat.le_of_eq hnesa_6628) (by decide)) (by first | assumption | (have q0 := kc_0; have q1 := kc_1; first | exact ⟨by omega, by omega⟩ | omega) | decide | (intro h; exact absurd h (by decide)))) (cwV 2 hts (wd_V wd_450 wd_451 wd_452 wd_5 (wd_c wd_453)) rfl rfl rfl dv_yX7_begins_2 ⟨Nat.le_of_ble_eq_true rfl, Nat.le_of_ble_eq_true rfl⟩) ⟨Pq.fb, recvX7 hK hP (q0 := 0) rfl, fun U hU hW => Pq.to (hP.ms _ hMs) (hD.ms _ hMs) (hK.ms [true, true, true, true, false] rfl) hSsa_6628 hE hS hFc hU hW⟩ rfl rfl hl.1 rfl (lv_room (Nat.le_of_ble_eq_true rfl)) dX7_readLine_102 ⟨Nat.le_of_ble_eq_true rfl, Nat.le_of_ble_eq_true rfl⟩) hS (fun q _ h => hFc q h) hFc (fun r u t H locs ht hvm hw hB hz1 hk1 hS => ?_)
        have hru9 := hw.2
        have hw := hw.1
        refine ex_9_9 hB (fun x_6631 x_6632 x_6633 x_6634 x_6635 x_6636 x_6637 x_6638 f_6639 b_x_6632 b_x_6635 b_x_6638 e_x_6631_0 e_x_6631_1 e_x_6631_2 e_x_6631_3 e_x_6631_4 e_x_6631_5 hB => ?_)
        obtain ⟨hP, hD⟩ := Bw.goN (ws' := [(oc7 oM iM_thrown rM_tape iM_taped iM_size x_6631 x_6632 x_6633 x_6634 x_6635 x_6636 x_6637 iM_trouble rM_letters x_6638 iM_hasCourt rM_r rM_fresh rM_told rM_read rM_st rM_undone rM_kept iM_undos iM_images rM_fresher iM_fresherSize iM_scale iM_night rM_heardRow rM_cutRow iM_breaths iM_cutMany iM_allBreaths rM_trial rM_words iM_fewestBreaths iM_orderMany iM_orderSum iM_leastOrder rM_often iM_setMany iM_someOf iM_allOf iM_allWeight iM_enoughWeight iM_worthSum iM_firstRest iM_leastDrawn), (arI rM_tape kM_tape 900 fM_tape), (arI rM_letters kM_letters 8 f_6639), (arI rM_fresh kM_fresh 287 fM_fresh), (arI rM_read kM_read 90 fM_read), (arI rM_fresher kM_fresher 8 fM_fresher)]) hB rfl ht hP hD _ hMs hk1 hFc rfl
        clear hz1 hk1 hvm ht hB hMs
        rw [← hru9] at e_x_6631_5
        obtain ⟨x_6640, rfl⟩ : ∃ z, z = r := ⟨_, rfl⟩
        have hG := hG.trans (un10_eq e_x_6631_5)
        have bx_6640 := hw.1
        have dx_6640 := bz_tb bx_6640
        have lx_6640 := hw.2
        clear e_x_6617_1
        clear e_x_6617_4
        refine lv_if_eq (tgt := 116) hx hb dX7_readLine_105 (by decide) (fun c_6641 => ?_) (fun c_6641 => ?_)
        · skip
          have hG := hG.trans (if_pos c_6641)
          have gc_6641 := ti_eq c_6641 rfl kc_0
          clear e_x_6631_3
          refine lv_aload_n hx hb dX7_readLine_116 rfl (lv_at hl 0 rfl) ?_
          obtain ⟨sa_6642, vsa_6642, nsa_6642, fsa_6642, hnsa_6642, hnesa_6642, hfesa_6642, hRsa_6642, hSsa_6642⟩ := hE.2.2.1 (142, "chance", [99, 104, 97, 110, 99, 101]) (by decide)
          have hG := hG.trans (lt_eq hnesa_6642)
          have hG := hG.trans (lt_eq hfesa_6642)
          refine va_ldcS hx hb hown hRsa_6642 dX7_readLine_117 ?_
          refine lv_aload_n hx hb dX7_readLine_119 rfl (lv_at hl 0 rfl) ?_
          refine va_get (D := (dC, dI)) (ci := 7) (v := .ref rM_fresh) (C := RX7) (T := TX7) (N := 48) hx hb hts inX7 hown hK hP 0 rfl rfl 16 (by decide) (hts _ wd_156) (fun _ h9 => h9) rfl dX7_readLine_120 ?_
          refine lv_bipush (v := 7) hx hb dX7_readLine_123 (by decide) ?_
          refine va_iald hx hb hK hP 3 2 rfl rfl (by unfold vp_in; decide) dX7_readLine_125 ?_
          refine lv_topi (fun x_6643 ex_6643 => ?_)
          have hG := hG.trans (lt_eq ex_6643)
          have cx_6643 : (fM_fresh 7).toInt = x_6643.toInt := congrArg Int32.toInt (show fM_fresh 7 = x_6643 from ex_6643.symm)
          refine lv_bipush (v := 8) hx hb dX7_readLine_126 (by decide) ?_
          refine lv_icmp_ge (tgt := 146) hx hb dX7_readLine_128 (by decide) (fun c_6644 => ?_) (fun c_6644 => ?_)
          · skip
            have hG := hG.trans (if_pos c_6644)
            have gc_6644 := ti_le c_6644 kc_8 rfl
            refine lv_iconst (v := 0) hx hb dX7_readLine_146 (by decide) ?_
            have hMs := ml_of hD [true, true, true, true, true, false] (wc := [(oc7 oM iM_thrown rM_tape iM_taped iM_size x_6631 x_6632 x_6633 x_6634 x_6635 x_6636 x_6637 iM_trouble rM_letters x_6638 iM_hasCourt rM_r rM_fresh rM_told rM_read rM_st rM_undone rM_kept iM_undos iM_images rM_fresher iM_fresherSize iM_scale iM_night rM_heardRow rM_cutRow iM_breaths iM_cutMany iM_allBreaths rM_trial rM_words iM_fewestBreaths iM_orderMany iM_orderSum iM_leastOrder rM_often iM_setMany iM_someOf iM_allOf iM_allWeight iM_enoughWeight iM_worthSum iM_firstRest iM_leastDrawn), (arI rM_tape kM_tape 900 fM_tape), (arI rM_letters kM_letters 8 f_6639), (arI rM_fresh kM_fresh 287 fM_fresh), (arI rM_read kM_read 90 fM_read)]) rfl
            have hFc := va_freeM hD hS hA _ hMs
            refine va_calli (va_runV (As := [.ref sa_6642, .int 0]) (rest := []) ⟨hx, hb, hml, hown, hts⟩ (tX7_begins l dC dI _ oM iM_thrown rM_tape fM_tape kM_tape iM_taped iM_size x_6631 x_6632 x_6633 x_6634 x_6635 x_6636 x_6637 iM_trouble rM_letters f_6639 kM_letters x_6638 iM_hasCourt rM_r rM_fresh fM_fresh kM_fresh rM_told rM_read fM_read kM_read rM_st rM_undone rM_kept iM_undos iM_images rM_fresher iM_fresherSize iM_scale iM_night rM_heardRow rM_cutRow iM_breaths iM_cutMany iM_allBreaths rM_trial rM_words iM_fewestBreaths iM_orderMany iM_orderSum iM_leastOrder rM_often iM_setMany iM_someOf iM_allOf iM_allWeight iM_enoughWeight iM_worthSum iM_firstRest iM_leastDrawn sa_6642 0 vsa_6642 nsa_6642 fsa_6642 b_iM_taped b_iM_size b_x_6632 b_x_6635 b_x_6638 b_iM_hasCourt b_iM_undos b_iM_images b_iM_scale b_iM_breaths b_iM_cutMany e_x_6631_1 r_P (Nat.le_trans (Nat.le_of_eq hnesa_6642) (by decide)) ⟨(om_b1de7dbe kc_0), (om_270f4ea0 kc_0)⟩) (cwV 2 hts (wd_V wd_450 wd_451 wd_452 wd_5 (wd_c wd_453)) rfl rfl rfl dv_yX7_begins_2 ⟨Nat.le_of_ble_eq_true rfl, Nat.le_of_ble_eq_true rfl⟩) ⟨Pq.fb, recvX7 hK hP (q0 := 0) rfl, fun U hU hW => Pq.to (hP.ms _ hMs) (hD.ms _ hMs) (hK.ms [true, true, true, true, false] rfl) hSsa_6642 hE hS hFc hU hW⟩ rfl rfl hl.1 rfl (lv_room (Nat.le_of_ble_eq_true rfl)) dX7_readLine_147 ⟨Nat.le_of_ble_eq_true rfl, Nat.le_of_ble_eq_true rfl⟩) hS (fun q _ h => hFc q h) hFc (fun r u t H locs ht hvm hw hB hz1 hk1 hS => ?_)
            have hru9 := hw.2
            have hw := hw.1
            refine ex_9_9 hB (fun x_6645 x_6646 x_6647 x_6648 x_6649 x_6650 x_6651 x_6652 f_6653 b_x_6646 b_x_6649 b_x_6652 e_x_6645_0 e_x_6645_1 e_x_6645_2 e_x_6645_3 e_x_6645_4 e_x_6645_5 hB => ?_)
            obtain ⟨hP, hD⟩ := Bw.goN (ws' := [(oc7 oM iM_thrown rM_tape iM_taped iM_size x_6645 x_6646 x_6647 x_6648 x_6649 x_6650 x_6651 iM_trouble rM_letters x_6652 iM_hasCourt rM_r rM_fresh rM_told rM_read rM_st rM_undone rM_kept iM_undos iM_images rM_fresher iM_fresherSize iM_scale iM_night rM_heardRow rM_cutRow iM_breaths iM_cutMany iM_allBreaths rM_trial rM_words iM_fewestBreaths iM_orderMany iM_orderSum iM_leastOrder rM_often iM_setMany iM_someOf iM_allOf iM_allWeight iM_enoughWeight iM_worthSum iM_firstRest iM_leastDrawn), (arI rM_tape kM_tape 900 fM_tape), (arI rM_letters kM_letters 8 f_6653), (arI rM_fresh kM_fresh 287 fM_fresh), (arI rM_read kM_read 90 fM_read), (arI rM_fresher kM_fresher 8 fM_fresher)]) hB rfl ht hP hD _ hMs hk1 hFc rfl
            clear hz1 hk1 hvm ht hB hMs
            rw [← hru9] at e_x_6645_5
            obtain ⟨x_6654, rfl⟩ : ∃ z, z = r := ⟨_, rfl⟩
            have hG := hG.trans (un10_eq e_x_6645_5)
            have bx_6654 := hw.1
            have dx_6654 := bz_tb bx_6654
            have lx_6654 := hw.2
            clear e_x_6631_1
            clear e_x_6631_4
            refine lv_if_eq (tgt := 161) hx hb dX7_readLine_150 (by decide) (fun c_6655 => ?_) (fun c_6655 => ?_)
            · skip
              have hG := hG.trans (if_pos c_6655)
              have gc_6655 := ti_eq c_6655 rfl kc_0
              clear e_x_6645_3
              refine lv_aload_n hx hb dX7_readLine_161 rfl (lv_at hl 0 rfl) ?_
              obtain ⟨sa_6656, vsa_6656, nsa_6656, fsa_6656, hnsa_6656, hnesa_6656, hfesa_6656, hRsa_6656, hSsa_6656⟩ := hE.2.2.1 (144, "throne", [116, 104, 114, 111, 110, 101]) (by decide)
              have hG := hG.trans (lt_eq hnesa_6656)
              have hG := hG.trans (lt_eq hfesa_6656)
              refine va_ldcS hx hb hown hRsa_6656 dX7_readLine_162 ?_
              have hMs := ml_of hD [true, false, true, false, false, false] (wc := [(oc7 oM iM_thrown rM_tape iM_taped iM_size x_6645 x_6646 x_6647 x_6648 x_6649 x_6650 x_6651 iM_trouble rM_letters x_6652 iM_hasCourt rM_r rM_fresh rM_told rM_read rM_st rM_undone rM_kept iM_undos iM_images rM_fresher iM_fresherSize iM_scale iM_night rM_heardRow rM_cutRow iM_breaths iM_cutMany iM_allBreaths rM_trial rM_words iM_fewestBreaths iM_orderMany iM_orderSum iM_leastOrder rM_often iM_setMany iM_someOf iM_allOf iM_allWeight iM_enoughWeight iM_worthSum iM_firstRest iM_leastDrawn), (arI rM_letters kM_letters 8 f_6653)]) rfl
              have hFc := va_freeM hD hS hA _ hMs
              refine va_calli (va_runV (As := [.ref sa_6656]) (rest := []) ⟨hx, hb, hml, hown, hts⟩ (tX7_isWord l dC dI _ oM iM_thrown rM_tape iM_taped iM_size x_6645 x_6646 x_6647 x_6648 x_6649 x_6650 x_6651 iM_trouble rM_letters f_6653 kM_letters x_6652 iM_hasCourt rM_r rM_fresh rM_told rM_read rM_st rM_undone rM_kept iM_undos iM_images rM_fresher iM_fresherSize iM_scale iM_night rM_heardRow rM_cutRow iM_breaths iM_cutMany iM_allBreaths rM_trial rM_words iM_fewestBreaths iM_orderMany iM_orderSum iM_leastOrder rM_often iM_setMany iM_someOf iM_allOf iM_allWeight iM_enoughWeight iM_worthSum iM_firstRest iM_leastDrawn sa_6656 vsa_6656 nsa_6656 fsa_6656 b_iM_taped b_iM_size b_x_6646 b_x_6649 b_x_6652 b_iM_hasCourt b_iM_undos b_iM_images b_iM_scale b_iM_breaths b_iM_cutMany e_x_6645_1 (Nat.le_trans (Nat.le_of_eq hnesa_6656) (by decide))) (cwV 1 hts (wd_V wd_420 wd_421 wd_422 wd_5 (wd_c wd_423)) rfl rfl rfl dv_yX7_isWord_1 ⟨Nat.le_of_ble_eq_true rfl, Nat.le_of_ble_eq_true rfl⟩) ⟨Pq.fb, recvX7 hK hP (q0 := 0) rfl, fun U hU hW => Pq.to (hP.ms _ hMs) (hD.ms _ hMs) (hK.ms [false, true, false, false, false] rfl) hSsa_6656 hE hS hFc hU hW⟩ rfl rfl hl.1 rfl (lv_room (Nat.le_of_ble_eq_true rfl)) dX7_readLine_164 ⟨Nat.le_of_ble_eq_true rfl, Nat.le_of_ble_eq_true rfl⟩) hS (fun q _ h => hFc q h) hFc (fun r u t H locs ht hvm hw hB hz1 hk1 hS => ?_)
              have hru9 := hw.2
              have hw := hw.1
              obtain ⟨hP, hD⟩ := Bw.goN (ws' := [(oc7 oM iM_thrown rM_tape iM_taped iM_size x_6645 x_6646 x_6647 x_6648 x_6649 x_6650 x_6651 iM_trouble rM_letters x_6652 iM_hasCourt rM_r rM_fresh rM_told rM_read rM_st rM_undone rM_kept iM_undos iM_images rM_fresher iM_fresherSize iM_scale iM_night rM_heardRow rM_cutRow iM_breaths iM_cutMany iM_allBreaths rM_trial rM_words iM_fewestBreaths iM_orderMany iM_orderSum iM_leastOrder rM_often iM_setMany iM_someOf iM_allOf iM_allWeight iM_enoughWeight iM_worthSum iM_firstRest iM_leastDrawn), (arI rM_tape kM_tape 900 fM_tape), (arI rM_letters kM_letters 8 f_6653), (arI rM_fresh kM_fresh 287 fM_fresh), (arI rM_read kM_read 90 fM_read), (arI rM_fresher kM_fresher 8 fM_fresher)]) hB rfl ht hP hD _ hMs hk1 hFc rfl
              clear hz1 hk1 hvm ht hB hMs
              obtain ⟨x_6657, rfl⟩ : ∃ z, z = r := ⟨_, rfl⟩
              have hG := hG.trans (lt_eq hru9.symm)
              have bx_6657 := hw.1
              have dx_6657 := bz_tb bx_6657
              have lx_6657 := hw.2
              refine lv_if_eq (tgt := 177) hx hb dX7_readLine_167 (by decide) (fun c_6658 => ?_) (fun c_6658 => ?_)
              · skip
                have hG := hG.trans (if_pos c_6658)
                have gc_6658 := ti_eq c_6658 rfl kc_0
                clear lx_6657
                refine lv_aload_n hx hb dX7_readLine_177 rfl (lv_at hl 0 rfl) ?_
                obtain ⟨sa_6659, vsa_6659, nsa_6659, fsa_6659, hnsa_6659, hnesa_6659, hfesa_6659, hRsa_6659, hSsa_6659⟩ := hE.2.2.1 (146, "unsure", [117, 110, 115, 117, 114, 101]) (by decide)
                have hG := hG.trans (lt_eq hnesa_6659)
                have hG := hG.trans (lt_eq hfesa_6659)
                refine va_ldcS hx hb hown hRsa_6659 dX7_readLine_178 ?_
                refine lv_aload_n hx hb dX7_readLine_180 rfl (lv_at hl 0 rfl) ?_
                refine va_get (D := (dC, dI)) (ci := 7) (v := .ref rM_fresh) (C := RX7) (T := TX7) (N := 48) hx hb hts inX7 hown hK hP 0 rfl rfl 16 (by decide) (hts _ wd_156) (fun _ h9 => h9) rfl dX7_readLine_181 ?_
                refine lv_iconst (v := 3) hx hb dX7_readLine_184 (by decide) ?_
                refine va_iald hx hb hK hP 3 2 rfl rfl (by unfold vp_in; decide) dX7_readLine_185 ?_
                refine lv_topi (fun x_6660 ex_6660 => ?_)
                have hG := hG.trans (lt_eq ex_6660)
                have cx_6660 : (fM_fresh 3).toInt = x_6660.toInt := congrArg Int32.toInt (show fM_fresh 3 = x_6660 from ex_6660.symm)
                refine lv_iconst (v := 4) hx hb dX7_readLine_186 (by decide) ?_
                refine vz_jgeX hx hb dX7_readLine_187 dX7_readLine_190 dX7_readLine_191 dX7_readLine_194 (fun x_6661 ex_6661 b_x_6661 j_x_6661 => ?_)
                have hG := hG.trans (lt_eq ex_6661)
                have j_x_6661 : 1 ≤ x_6661.toInt → x_6660.toInt < 4 := fun h9 => by have h8 := j_x_6661 h9; rw [kc_4] at h8; exact h8
                have hMs := ml_of hD [true, true, true, true, true, false] (wc := [(oc7 oM iM_thrown rM_tape iM_taped iM_size x_6645 x_6646 x_6647 x_6648 x_6649 x_6650 x_6651 iM_trouble rM_letters x_6652 iM_hasCourt rM_r rM_fresh rM_told rM_read rM_st rM_undone rM_kept iM_undos iM_images rM_fresher iM_fresherSize iM_scale iM_night rM_heardRow rM_cutRow iM_breaths iM_cutMany iM_allBreaths rM_trial rM_words iM_fewestBreaths iM_orderMany iM_orderSum iM_leastOrder rM_often iM_setMany iM_someOf iM_allOf iM_allWeight iM_enoughWeight iM_worthSum iM_firstRest iM_leastDrawn), (arI rM_tape kM_tape 900 fM_tape), (arI rM_letters kM_letters 8 f_6653), (arI rM_fresh kM_fresh 287 fM_fresh), (arI rM_read kM_read 90 fM_read)]) rfl
                have hFc := va_freeM hD hS hA _ hMs
                refine va_calli (va_runV (As := [.ref sa_6659, .int x_6661]) (rest := []) ⟨hx, hb, hml, hown, hts⟩ (tX7_begins l dC dI _ oM iM_thrown rM_tape fM_tape kM_tape iM_taped iM_size x_6645 x_6646 x_6647 x_6648 x_6649 x_6650 x_6651 iM_trouble rM_letters f_6653 kM_letters x_6652 iM_hasCourt rM_r rM_fresh fM_fresh kM_fresh rM_told rM_read fM_read kM_read rM_st rM_undone rM_kept iM_undos iM_images rM_fresher iM_fresherSize iM_scale iM_night rM_heardRow rM_cutRow iM_breaths iM_cutMany iM_allBreaths rM_trial rM_words iM_fewestBreaths iM_orderMany iM_orderSum iM_leastOrder rM_often iM_setMany iM_someOf iM_allOf iM_allWeight iM_enoughWeight iM_worthSum iM_firstRest iM_leastDrawn sa_6659 x_6661 vsa_6659 nsa_6659 fsa_6659 b_iM_taped b_iM_size b_x_6646 b_x_6649 b_x_6652 b_iM_hasCourt b_iM_undos b_iM_images b_iM_scale b_iM_breaths b_iM_cutMany e_x_6645_1 r_P (Nat.le_trans (Nat.le_of_eq hnesa_6659) (by decide)) (by first | assumption | (have q0 := kc_0; have q1 := kc_1; first | exact ⟨by omega, by omega⟩ | omega) | decide | (intro h; exact absurd h (by decide)))) (cwV 2 hts (wd_V wd_450 wd_451 wd_452 wd_5 (wd_c wd_453)) rfl rfl rfl dv_yX7_begins_2 ⟨Nat.le_of_ble_eq_true rfl, Nat.le_of_ble_eq_true rfl⟩) ⟨Pq.fb, recvX7 hK hP (q0 := 0) rfl, fun U hU hW => Pq.to (hP.ms _ hMs) (hD.ms _ hMs) (hK.ms [true, true, true, true, false] rfl) hSsa_6659 hE hS hFc hU hW⟩ rfl rfl hl.1 rfl (lv_room (Nat.le_of_ble_eq_true rfl)) dX7_readLine_195 ⟨Nat.le_of_ble_eq_true rfl, Nat.le_of_ble_eq_true rfl⟩) hS (fun q _ h => hFc q h) hFc (fun r u t H locs ht hvm hw hB hz1 hk1 hS => ?_)
                have hru9 := hw.2
                have hw := hw.1
                refine ex_9_9 hB (fun x_6662 x_6663 x_6664 x_6665 x_6666 x_6667 x_6668 x_6669 f_6670 b_x_6663 b_x_6666 b_x_6669 e_x_6662_0 e_x_6662_1 e_x_6662_2 e_x_6662_3 e_x_6662_4 e_x_6662_5 hB => ?_)
                obtain ⟨hP, hD⟩ := Bw.goN (ws' := [(oc7 oM iM_thrown rM_tape iM_taped iM_size x_6662 x_6663 x_6664 x_6665 x_6666 x_6667 x_6668 iM_trouble rM_letters x_6669 iM_hasCourt rM_r rM_fresh rM_told rM_read rM_st rM_undone rM_kept iM_undos iM_images rM_fresher iM_fresherSize iM_scale iM_night rM_heardRow rM_cutRow iM_breaths iM_cutMany iM_allBreaths rM_trial rM_words iM_fewestBreaths iM_orderMany iM_orderSum iM_leastOrder rM_often iM_setMany iM_someOf iM_allOf iM_allWeight iM_enoughWeight iM_worthSum iM_firstRest iM_leastDrawn), (arI rM_tape kM_tape 900 fM_tape), (arI rM_letters kM_letters 8 f_6670), (arI rM_fresh kM_fresh 287 fM_fresh), (arI rM_read kM_read 90 fM_read), (arI rM_fresher kM_fresher 8 fM_fresher)]) hB rfl ht hP hD _ hMs hk1 hFc rfl
                clear hz1 hk1 hvm ht hB hMs
                rw [← hru9] at e_x_6662_5
                obtain ⟨x_6671, rfl⟩ : ∃ z, z = r := ⟨_, rfl⟩
                have hG := hG.trans (un10_eq e_x_6662_5)
                have bx_6671 := hw.1
                have dx_6671 := bz_tb bx_6671
                have lx_6671 := hw.2
                clear e_x_6645_1
                clear e_x_6645_4
                refine lv_if_eq (tgt := 208) hx hb dX7_readLine_198 (by decide) (fun c_6672 => ?_) (fun c_6672 => ?_)
                · skip
                  have hG := hG.trans (if_pos c_6672)
                  have gc_6672 := ti_eq c_6672 rfl kc_0
                  clear e_x_6662_3
                  refine lv_aload_n hx hb dX7_readLine_208 rfl (lv_at hl 0 rfl) ?_
                  obtain ⟨sa_6673, vsa_6673, nsa_6673, fsa_6673, hnsa_6673, hnesa_6673, hfesa_6673, hRsa_6673, hSsa_6673⟩ := hE.2.2.1 (148, "said", [115, 97, 105, 100]) (by decide)
                  have hG := hG.trans (lt_eq hnesa_6673)
                  have hG := hG.trans (lt_eq hfesa_6673)
                  refine va_ldcS hx hb hown hRsa_6673 dX7_readLine_209 ?_
                  have hMs := ml_of hD [true, false, true, false, false, false] (wc := [(oc7 oM iM_thrown rM_tape iM_taped iM_size x_6662 x_6663 x_6664 x_6665 x_6666 x_6667 x_6668 iM_trouble rM_letters x_6669 iM_hasCourt rM_r rM_fresh rM_told rM_read rM_st rM_undone rM_kept iM_undos iM_images rM_fresher iM_fresherSize iM_scale iM_night rM_heardRow rM_cutRow iM_breaths iM_cutMany iM_allBreaths rM_trial rM_words iM_fewestBreaths iM_orderMany iM_orderSum iM_leastOrder rM_often iM_setMany iM_someOf iM_allOf iM_allWeight iM_enoughWeight iM_worthSum iM_firstRest iM_leastDrawn), (arI rM_letters kM_letters 8 f_6670)]) rfl
                  have hFc := va_freeM hD hS hA _ hMs
                  refine va_calli (va_runV (As := [.ref sa_6673]) (rest := []) ⟨hx, hb, hml, hown, hts⟩ (tX7_isWord l dC dI _ oM iM_thrown rM_tape iM_taped iM_size x_6662 x_6663 x_6664 x_6665 x_6666 x_6667 x_6668 iM_trouble rM_letters f_6670 kM_letters x_6669 iM_hasCourt rM_r rM_fresh rM_told rM_read rM_st rM_undone rM_kept iM_undos iM_images rM_fresher iM_fresherSize iM_scale iM_night rM_heardRow rM_cutRow iM_breaths iM_cutMany iM_allBreaths rM_trial rM_words iM_fewestBreaths iM_orderMany iM_orderSum iM_leastOrder rM_often iM_setMany iM_someOf iM_allOf iM_allWeight iM_enoughWeight iM_worthSum iM_firstRest iM_leastDrawn sa_6673 vsa_6673 nsa_6673 fsa_6673 b_iM_taped b_iM_size b_x_6663 b_x_6666 b_x_6669 b_iM_hasCourt b_iM_undos b_iM_images b_iM_scale b_iM_breaths b_iM_cutMany e_x_6662_1 (Nat.le_trans (Nat.le_of_eq hnesa_6673) (by decide))) (cwV 1 hts (wd_V wd_420 wd_421 wd_422 wd_5 (wd_c wd_423)) rfl rfl rfl dv_yX7_isWord_1 ⟨Nat.le_of_ble_eq_true rfl, Nat.le_of_ble_eq_true rfl⟩) ⟨Pq.fb, recvX7 hK hP (q0 := 0) rfl, fun U hU hW => Pq.to (hP.ms _ hMs) (hD.ms _ hMs) (hK.ms [false, true, false, false, false] rfl) hSsa_6673 hE hS hFc hU hW⟩ rfl rfl hl.1 rfl (lv_room (Nat.le_of_ble_eq_true rfl)) dX7_readLine_211 ⟨Nat.le_of_ble_eq_true rfl, Nat.le_of_ble_eq_true rfl⟩) hS (fun q _ h => hFc q h) hFc (fun r u t H locs ht hvm hw hB hz1 hk1 hS => ?_)
                  have hru9 := hw.2
                  have hw := hw.1
                  obtain ⟨hP, hD⟩ := Bw.goN (ws' := [(oc7 oM iM_thrown rM_tape iM_taped iM_size x_6662 x_6663 x_6664 x_6665 x_6666 x_6667 x_6668 iM_trouble rM_letters x_6669 iM_hasCourt rM_r rM_fresh rM_told rM_read rM_st rM_undone rM_kept iM_undos iM_images rM_fresher iM_fresherSize iM_scale iM_night rM_heardRow rM_cutRow iM_breaths iM_cutMany iM_allBreaths rM_trial rM_words iM_fewestBreaths iM_orderMany iM_orderSum iM_leastOrder rM_often iM_setMany iM_someOf iM_allOf iM_allWeight iM_enoughWeight iM_worthSum iM_firstRest iM_leastDrawn), (arI rM_tape kM_tape 900 fM_tape), (arI rM_letters kM_letters 8 f_6670), (arI rM_fresh kM_fresh 287 fM_fresh), (arI rM_read kM_read 90 fM_read), (arI rM_fresher kM_fresher 8 fM_fresher)]) hB rfl ht hP hD _ hMs hk1 hFc rfl
                  clear hz1 hk1 hvm ht hB hMs
                  obtain ⟨x_6674, rfl⟩ : ∃ z, z = r := ⟨_, rfl⟩
                  have hG := hG.trans (lt_eq hru9.symm)
                  have bx_6674 := hw.1
                  have dx_6674 := bz_tb bx_6674
                  have lx_6674 := hw.2
                  refine lv_if_eq (tgt := 224) hx hb dX7_readLine_214 (by decide) (fun c_6675 => ?_) (fun c_6675 => ?_)
                  · skip
                    have hG := hG.trans (if_pos c_6675)
                    have gc_6675 := ti_eq c_6675 rfl kc_0
                    clear lx_6674
                    refine lv_aload_n hx hb dX7_readLine_224 rfl (lv_at hl 0 rfl) ?_
                    refine lv_iconst (v := 1) hx hb dX7_readLine_225 (by decide) ?_
                    refine lv_aload_n hx hb dX7_readLine_226 rfl (lv_at hl 0 rfl) ?_
                    refine va_get (D := (dC, dI)) (ci := 7) (v := .int x_6662) (C := RX7) (T := TX7) (N := 48) hx hb hts inX7 hown hK hP 0 rfl rfl 4 (by decide) (hts _ wd_384) (fun _ h9 => h9) rfl dX7_readLine_227 ?_
                    have hMs := ml_of hD [true, false, false, false, false, false] (wc := [(oc7 oM iM_thrown rM_tape iM_taped iM_size x_6662 x_6663 x_6664 x_6665 x_6666 x_6667 x_6668 iM_trouble rM_letters x_6669 iM_hasCourt rM_r rM_fresh rM_told rM_read rM_st rM_undone rM_kept iM_undos iM_images rM_fresher iM_fresherSize iM_scale iM_night rM_heardRow rM_cutRow iM_breaths iM_cutMany iM_allBreaths rM_trial rM_words iM_fewestBreaths iM_orderMany iM_orderSum iM_leastOrder rM_often iM_setMany iM_someOf iM_allOf iM_allWeight iM_enoughWeight iM_worthSum iM_firstRest iM_leastDrawn)]) rfl
                    have hFc := va_freeM hD hS hA _ hMs
                    refine va_callv (va_runV (As := [.int 1, .int x_6662]) (rest := []) ⟨hx, hb, hml, hown, hts⟩ (tX7_wrong l dC dI _ oM iM_thrown rM_tape iM_taped iM_size x_6662 x_6663 x_6664 x_6665 x_6666 x_6667 x_6668 iM_trouble rM_letters x_6669 iM_hasCourt rM_r rM_fresh rM_told rM_read rM_st rM_undone rM_kept iM_undos iM_images rM_fresher iM_fresherSize iM_scale iM_night rM_heardRow rM_cutRow iM_breaths iM_cutMany iM_allBreaths rM_trial rM_words iM_fewestBreaths iM_orderMany iM_orderSum iM_leastOrder rM_often iM_setMany iM_someOf iM_allOf iM_allWeight iM_enoughWeight iM_worthSum iM_firstRest iM_leastDrawn 1 x_6662 b_iM_taped b_iM_size b_x_6663 b_x_6666 b_x_6669 b_iM_hasCourt b_iM_undos b_iM_images b_iM_scale b_iM_breaths b_iM_cutMany e_x_6662_1) (cwV 2 hts (wd_V wd_430 wd_431 wd_432 wd_5 (wd_c wd_433)) rfl rfl rfl dv_yX7_wrong_2 ⟨Nat.le_of_ble_eq_true rfl, Nat.le_of_ble_eq_true rfl⟩) ⟨Pw.fb, recvX7 hK hP (q0 := 0) rfl, fun U hU hW => Pw.to (hP.ms _ hMs) (hD.ms _ hMs) (hK.ms [false, false, false, false, false] rfl) hE hS hFc hU hW⟩ rfl rfl hl.1 rfl (lv_room (Nat.le_of_ble_eq_true rfl)) dX7_readLine_230 ⟨Nat.le_of_ble_eq_true rfl, Nat.le_of_ble_eq_true rfl⟩) hS (fun q _ h => hFc q h) hFc (fun u t H locs ht hvm hw hB hz1 hk1 hS => ?_)
                    refine ex_3_3 hB (fun x_6676 x_6677 x_6678 b_x_6678 e_x_6676_0 e_x_6676_1 hB => ?_)
                    obtain ⟨hP, hD⟩ := Bw.goN (ws' := [(oc7 oM iM_thrown rM_tape iM_taped iM_size x_6662 x_6663 x_6664 x_6665 x_6666 x_6676 x_6677 iM_trouble rM_letters x_6678 iM_hasCourt rM_r rM_fresh rM_told rM_read rM_st rM_undone rM_kept iM_undos iM_images rM_fresher iM_fresherSize iM_scale iM_night rM_heardRow rM_cutRow iM_breaths iM_cutMany iM_allBreaths rM_trial rM_words iM_fewestBreaths iM_orderMany iM_orderSum iM_leastOrder rM_often iM_setMany iM_someOf iM_allOf iM_allWeight iM_enoughWeight iM_worthSum iM_firstRest iM_leastDrawn), (arI rM_tape kM_tape 900 fM_tape), (arI rM_letters kM_letters 8 f_6670), (arI rM_fresh kM_fresh 287 fM_fresh), (arI rM_read kM_read 90 fM_read), (arI rM_fresher kM_fresher 8 fM_fresher)]) hB rfl ht hP hD _ hMs hk1 hFc rfl
                    clear hz1 hk1 hvm ht hB hMs
                    have hG := hG.trans (un3_eq e_x_6676_1)
                    exact wq_v hx hb hr 0 trivial (fun t ht hW => ⟨x_6662, x_6663, x_6664, x_6665, x_6666, x_6676, x_6677, x_6678, iM_fresherSize, f_6670, fM_fresh, fM_read, fM_fresher, b_x_6663, b_x_6666, b_x_6678, (om_dcd74bf2 e_x_6603_0 e_x_6617_0 e_x_6631_0 e_x_6645_0 e_x_6662_0), e_x_6662_1, (om_00f1c5dd b_iM_failed.2 e_x_6676_0), (fun h9 => False.elim (om_92495247 e_x_6676_0 h9.1)), r_P, hG, Bw.to hP hD hK ht hW⟩) hS dX7_readLine_233 hlocks
                  · skip
                    have hG := hG.trans (if_neg c_6675)
                    have gc_6675 := ti_ne c_6675 rfl kc_0
                    replace gc_6675 : (-1) * x_6674.toInt + 1 ≤ 0 := om_e3003f79 gc_6675 dx_6674.1
                    have h_6679 : x_6664.toInt = 2 := lx_6674 (om_7907a7c1 dx_6674.2 gc_6675)
                    clear lx_6674
                    have h_6680 : x_6666.toInt ≤ 8 := e_x_6662_1 h_6679
                    clear e_x_6662_1
                    refine lv_aload_n hx hb dX7_readLine_217 rfl (lv_at hl 0 rfl) ?_
                    have hMs := ml_of hD [true, true, true, true, true, false] (wc := [(oc7 oM iM_thrown rM_tape iM_taped iM_size x_6662 x_6663 x_6664 x_6665 x_6666 x_6667 x_6668 iM_trouble rM_letters x_6669 iM_hasCourt rM_r rM_fresh rM_told rM_read rM_st rM_undone rM_kept iM_undos iM_images rM_fresher iM_fresherSize iM_scale iM_night rM_heardRow rM_cutRow iM_breaths iM_cutMany iM_allBreaths rM_trial rM_words iM_fewestBreaths iM_orderMany iM_orderSum iM_leastOrder rM_often iM_setMany iM_someOf iM_allOf iM_allWeight iM_enoughWeight iM_worthSum iM_firstRest iM_leastDrawn), (arI rM_tape kM_tape 900 fM_tape), (arI rM_letters kM_letters 8 f_6670), (arI rM_fresh kM_fresh 287 fM_fresh), (arI rM_read kM_read 90 fM_read)]) rfl
                    have hFc := va_freeM hD hS hA _ hMs
                    refine va_callv (va_runV (As := []) (rest := []) ⟨hx, hb, hml, hown, hts⟩ (tX7_saidLine l dC dI _ oM iM_thrown rM_tape fM_tape kM_tape iM_taped iM_size x_6662 x_6663 x_6664 x_6665 x_6666 x_6667 x_6668 iM_trouble rM_letters f_6670 kM_letters x_6669 iM_hasCourt rM_r rM_fresh fM_fresh kM_fresh rM_told rM_read fM_read kM_read rM_st rM_undone rM_kept iM_undos iM_images rM_fresher iM_fresherSize iM_scale iM_night rM_heardRow rM_cutRow iM_breaths iM_cutMany iM_allBreaths rM_trial rM_words iM_fewestBreaths iM_orderMany iM_orderSum iM_leastOrder rM_often iM_setMany iM_someOf iM_allOf iM_allWeight iM_enoughWeight iM_worthSum iM_firstRest iM_leastDrawn b_iM_taped b_iM_size b_x_6663 b_x_6666 b_x_6669 b_iM_hasCourt b_iM_undos b_iM_images b_iM_scale b_iM_breaths b_iM_cutMany (fun h9 => h_6680) r_P) (cwV 0 hts (wd_V wd_498 wd_499 wd_500 wd_5 (wd_c wd_501)) rfl rfl rfl dv_yX7_saidLine_0 ⟨Nat.le_of_ble_eq_true rfl, Nat.le_of_ble_eq_true rfl⟩) ⟨Pw.fb, recvX7 hK hP (q0 := 0) rfl, fun U hU hW => Pw.to (hP.ms _ hMs) (hD.ms _ hMs) (hK.ms [true, true, true, true, false] rfl) hE hS hFc hU hW⟩ rfl rfl hl.1 rfl (lv_room (Nat.le_of_ble_eq_true rfl)) dX7_readLine_218 ⟨Nat.le_of_ble_eq_true rfl, Nat.le_of_ble_eq_true rfl⟩) hS (fun q _ h => hFc q h) hFc (fun u t H locs ht hvm hw hB hz1 hk1 hS => ?_)
                    refine ex_10_9 hB (fun x_6681 x_6682 x_6683 x_6684 x_6685 x_6686 x_6687 x_6688 f_6689 f_6690 b_x_6682 b_x_6685 b_x_6688 e_x_6681_0 e_x_6681_1 e_x_6681_2 e_x_6681_3 e_x_6681_4 e_x_6681_5 hB => ?_)
                    obtain ⟨hP, hD⟩ := Bw.goN (ws' := [(oc7 oM iM_thrown rM_tape iM_taped iM_size x_6681 x_6682 x_6683 x_6684 x_6685 x_6686 x_6687 iM_trouble rM_letters x_6688 iM_hasCourt rM_r rM_fresh rM_told rM_read rM_st rM_undone rM_kept iM_undos iM_images rM_fresher iM_fresherSize iM_scale iM_night rM_heardRow rM_cutRow iM_breaths iM_cutMany iM_allBreaths rM_trial rM_words iM_fewestBreaths iM_orderMany iM_orderSum iM_leastOrder rM_often iM_setMany iM_someOf iM_allOf iM_allWeight iM_enoughWeight iM_worthSum iM_firstRest iM_leastDrawn), (arI rM_tape kM_tape 900 fM_tape), (arI rM_letters kM_letters 8 f_6689), (arI rM_fresh kM_fresh 287 f_6690), (arI rM_read kM_read 90 fM_read), (arI rM_fresher kM_fresher 8 fM_fresher)]) hB rfl ht hP hD _ hMs hk1 hFc rfl
                    clear hz1 hk1 hvm ht hB hMs
                    have pl_f_6690 := e_x_6681_4.lins
                    have hG := hG.trans (un10_eq e_x_6681_5)
                    clear e_x_6662_4
                    refine lv_goto (tgt := 233) hx hb dX7_readLine_221 (by decide) ?_
                    exact wq_v hx hb hr 0 trivial (fun t ht hW => ⟨x_6681, x_6682, x_6683, x_6684, x_6685, x_6686, x_6687, x_6688, iM_fresherSize, f_6689, f_6690, fM_read, fM_fresher, b_x_6682, b_x_6685, b_x_6688, (om_ac7239fc e_x_6603_0 e_x_6617_0 e_x_6631_0 e_x_6645_0 e_x_6662_0 e_x_6681_0), e_x_6681_1, (om_ac7239fc e_x_6603_2 e_x_6617_2 e_x_6631_2 e_x_6645_2 e_x_6662_2 e_x_6681_2), (fun h9 => (om_ab9846f4 e_x_6603_0 e_x_6617_0 e_x_6631_0 e_x_6645_0 e_x_6662_0 (e_x_6681_3 ⟨h9.1, h9.2⟩))), e_x_6681_4, hG, Bw.to hP hD hK ht hW⟩) hS dX7_readLine_233 hlocks
                · skip
                  have hG := hG.trans (if_neg c_6672)
                  have gc_6672 := ti_ne c_6672 rfl kc_0
                  replace gc_6672 : (-1) * x_6671.toInt + 1 ≤ 0 := om_e3003f79 gc_6672 dx_6671.1
                  have h_6691 := e_x_6662_3 (by omega)
                  clear e_x_6662_3
                  refine lv_aload_n hx hb dX7_readLine_201 rfl (lv_at hl 0 rfl) ?_
                  have hMs := ml_of hD [true, true, true, true, true, false] (wc := [(oc7 oM iM_thrown rM_tape iM_taped iM_size x_6662 x_6663 x_6664 x_6665 x_6666 x_6667 x_6668 iM_trouble rM_letters x_6669 iM_hasCourt rM_r rM_fresh rM_told rM_read rM_st rM_undone rM_kept iM_undos iM_images rM_fresher iM_fresherSize iM_scale iM_night rM_heardRow rM_cutRow iM_breaths iM_cutMany iM_allBreaths rM_trial rM_words iM_fewestBreaths iM_orderMany iM_orderSum iM_leastOrder rM_often iM_setMany iM_someOf iM_allOf iM_allWeight iM_enoughWeight iM_worthSum iM_firstRest iM_leastDrawn), (arI rM_tape kM_tape 900 fM_tape), (arI rM_letters kM_letters 8 f_6670), (arI rM_fresh kM_fresh 287 fM_fresh), (arI rM_read kM_read 90 fM_read)]) rfl
                  have hFc := va_freeM hD hS hA _ hMs
                  refine va_callv (va_runV (As := []) (rest := []) ⟨hx, hb, hml, hown, hts⟩ (tX7_unsureLine l dC dI _ oM iM_thrown rM_tape fM_tape kM_tape iM_taped iM_size x_6662 x_6663 x_6664 x_6665 x_6666 x_6667 x_6668 iM_trouble rM_letters f_6670 kM_letters x_6669 iM_hasCourt rM_r rM_fresh fM_fresh kM_fresh rM_told rM_read fM_read kM_read rM_st rM_undone rM_kept iM_undos iM_images rM_fresher iM_fresherSize iM_scale iM_night rM_heardRow rM_cutRow iM_breaths iM_cutMany iM_allBreaths rM_trial rM_words iM_fewestBreaths iM_orderMany iM_orderSum iM_leastOrder rM_often iM_setMany iM_someOf iM_allOf iM_allWeight iM_enoughWeight iM_worthSum iM_firstRest iM_leastDrawn b_iM_taped b_iM_size b_x_6663 b_x_6666 b_x_6669 b_iM_hasCourt b_iM_undos b_iM_images b_iM_scale b_iM_breaths b_iM_cutMany e_x_6662_1 r_P (by intro h9; have q0 := kc_0; have q1 := kc_1; have q2 := kc_2; have q3 := kc_3; omega)) (cwV 0 hts (wd_V wd_494 wd_495 wd_496 wd_5 (wd_c wd_497)) rfl rfl rfl dv_yX7_unsureLine_0 ⟨Nat.le_of_ble_eq_true rfl, Nat.le_of_ble_eq_true rfl⟩) ⟨Pw.fb, recvX7 hK hP (q0 := 0) rfl, fun U hU hW => Pw.to (hP.ms _ hMs) (hD.ms _ hMs) (hK.ms [true, true, true, true, false] rfl) hE hS hFc hU hW⟩ rfl rfl hl.1 rfl (lv_room (Nat.le_of_ble_eq_true rfl)) dX7_readLine_202 ⟨Nat.le_of_ble_eq_true rfl, Nat.le_of_ble_eq_true rfl⟩) hS (fun q _ h => hFc q h) hFc (fun u t H locs ht hvm hw hB hz1 hk1 hS => ?_)
                  refine ex_10_9 hB (fun x_6692 x_6693 x_6694 x_6695 x_6696 x_6697 x_6698 x_6699 f_6700 f_6701 b_x_6693 b_x_6696 b_x_6699 e_x_6692_0 e_x_6692_1 e_x_6692_2 e_x_6692_3 e_x_6692_4 e_x_6692_5 hB => ?_)
                  obtain ⟨hP, hD⟩ := Bw.goN (ws' := [(oc7 oM iM_thrown rM_tape iM_taped iM_size x_6692 x_6693 x_6694 x_6695 x_6696 x_6697 x_6698 iM_trouble rM_letters x_6699 iM_hasCourt rM_r rM_fresh rM_told rM_read rM_st rM_undone rM_kept iM_undos iM_images rM_fresher iM_fresherSize iM_scale iM_night rM_heardRow rM_cutRow iM_breaths iM_cutMany iM_allBreaths rM_trial rM_words iM_fewestBreaths iM_orderMany iM_orderSum iM_leastOrder rM_often iM_setMany iM_someOf iM_allOf iM_allWeight iM_enoughWeight iM_worthSum iM_firstRest iM_leastDrawn), (arI rM_tape kM_tape 900 fM_tape), (arI rM_letters kM_letters 8 f_6700), (arI rM_fresh kM_fresh 287 f_6701), (arI rM_read kM_read 90 fM_read), (arI rM_fresher kM_fresher 8 fM_fresher)]) hB rfl ht hP hD _ hMs hk1 hFc rfl
                  clear hz1 hk1 hvm ht hB hMs
                  have pl_f_6701 := e_x_6692_4.lins
                  have hG := hG.trans (un10_eq e_x_6692_5)
                  clear e_x_6662_1
                  clear e_x_6662_4
                  refine lv_goto (tgt := 233) hx hb dX7_readLine_205 (by decide) ?_
                  exact wq_v hx hb hr 0 trivial (fun t ht hW => ⟨x_6692, x_6693, x_6694, x_6695, x_6696, x_6697, x_6698, x_6699, iM_fresherSize, f_6700, f_6701, fM_read, fM_fresher, b_x_6693, b_x_6696, b_x_6699, (om_ac7239fc e_x_6603_0 e_x_6617_0 e_x_6631_0 e_x_6645_0 e_x_6662_0 e_x_6692_0), e_x_6692_1, (om_ac7239fc e_x_6603_2 e_x_6617_2 e_x_6631_2 e_x_6645_2 e_x_6662_2 e_x_6692_2), (fun h9 => (om_ab9846f4 e_x_6603_0 e_x_6617_0 e_x_6631_0 e_x_6645_0 e_x_6662_0 (e_x_6692_3 ⟨h9.1, h9.2⟩))), e_x_6692_4, hG, Bw.to hP hD hK ht hW⟩) hS dX7_readLine_233 hlocks
              · skip
                have hG := hG.trans (if_neg c_6658)
                have gc_6658 := ti_ne c_6658 rfl kc_0
                replace gc_6658 : (-1) * x_6657.toInt + 1 ≤ 0 := om_e3003f79 gc_6658 dx_6657.1
                have h_6702 : x_6647.toInt = 2 := lx_6657 (om_7907a7c1 dx_6657.2 gc_6658)
                clear lx_6657
                have h_6703 : x_6649.toInt ≤ 8 := e_x_6645_1 h_6702
                clear e_x_6645_1
                refine lv_aload_n hx hb dX7_readLine_170 rfl (lv_at hl 0 rfl) ?_
                have hMs := ml_of hD [true, true, true, true, true, false] (wc := [(oc7 oM iM_thrown rM_tape iM_taped iM_size x_6645 x_6646 x_6647 x_6648 x_6649 x_6650 x_6651 iM_trouble rM_letters x_6652 iM_hasCourt rM_r rM_fresh rM_told rM_read rM_st rM_undone rM_kept iM_undos iM_images rM_fresher iM_fresherSize iM_scale iM_night rM_heardRow rM_cutRow iM_breaths iM_cutMany iM_allBreaths rM_trial rM_words iM_fewestBreaths iM_orderMany iM_orderSum iM_leastOrder rM_often iM_setMany iM_someOf iM_allOf iM_allWeight iM_enoughWeight iM_worthSum iM_firstRest iM_leastDrawn), (arI rM_tape kM_tape 900 fM_tape), (arI rM_letters kM_letters 8 f_6653), (arI rM_fresh kM_fresh 287 fM_fresh), (arI rM_read kM_read 90 fM_read)]) rfl
                have hFc := va_freeM hD hS hA _ hMs
                refine va_callv (va_runV (As := []) (rest := []) ⟨hx, hb, hml, hown, hts⟩ (tX7_throneLine l dC dI _ oM iM_thrown rM_tape fM_tape kM_tape iM_taped iM_size x_6645 x_6646 x_6647 x_6648 x_6649 x_6650 x_6651 iM_trouble rM_letters f_6653 kM_letters x_6652 iM_hasCourt rM_r rM_fresh fM_fresh kM_fresh rM_told rM_read fM_read kM_read rM_st rM_undone rM_kept iM_undos iM_images rM_fresher iM_fresherSize iM_scale iM_night rM_heardRow rM_cutRow iM_breaths iM_cutMany iM_allBreaths rM_trial rM_words iM_fewestBreaths iM_orderMany iM_orderSum iM_leastOrder rM_often iM_setMany iM_someOf iM_allOf iM_allWeight iM_enoughWeight iM_worthSum iM_firstRest iM_leastDrawn b_iM_taped b_iM_size b_x_6646 b_x_6649 b_x_6652 b_iM_hasCourt b_iM_undos b_iM_images b_iM_scale b_iM_breaths b_iM_cutMany (fun h9 => h_6703) r_P) (cwV 0 hts (wd_V wd_490 wd_491 wd_492 wd_5 (wd_c wd_493)) rfl rfl rfl dv_yX7_throneLine_0 ⟨Nat.le_of_ble_eq_true rfl, Nat.le_of_ble_eq_true rfl⟩) ⟨Pw.fb, recvX7 hK hP (q0 := 0) rfl, fun U hU hW => Pw.to (hP.ms _ hMs) (hD.ms _ hMs) (hK.ms [true, true, true, true, false] rfl) hE hS hFc hU hW⟩ rfl rfl hl.1 rfl (lv_room (Nat.le_of_ble_eq_true rfl)) dX7_readLine_171 ⟨Nat.le_of_ble_eq_true rfl, Nat.le_of_ble_eq_true rfl⟩) hS (fun q _ h => hFc q h) hFc (fun u t H locs ht hvm hw hB hz1 hk1 hS => ?_)
                refine ex_10_9 hB (fun x_6704 x_6705 x_6706 x_6707 x_6708 x_6709 x_6710 x_6711 f_6712 f_6713 b_x_6705 b_x_6708 b_x_6711 e_x_6704_0 e_x_6704_1 e_x_6704_2 e_x_6704_3 e_x_6704_4 e_x_6704_5 hB => ?_)
                obtain ⟨hP, hD⟩ := Bw.goN (ws' := [(oc7 oM iM_thrown rM_tape iM_taped iM_size x_6704 x_6705 x_6706 x_6707 x_6708 x_6709 x_6710 iM_trouble rM_letters x_6711 iM_hasCourt rM_r rM_fresh rM_told rM_read rM_st rM_undone rM_kept iM_undos iM_images rM_fresher iM_fresherSize iM_scale iM_night rM_heardRow rM_cutRow iM_breaths iM_cutMany iM_allBreaths rM_trial rM_words iM_fewestBreaths iM_orderMany iM_orderSum iM_leastOrder rM_often iM_setMany iM_someOf iM_allOf iM_allWeight iM_enoughWeight iM_worthSum iM_firstRest iM_leastDrawn), (arI rM_tape kM_tape 900 fM_tape), (arI rM_letters kM_letters 8 f_6712), (arI rM_fresh kM_fresh 287 f_6713), (arI rM_read kM_read 90 fM_read), (arI rM_fresher kM_fresher 8 fM_fresher)]) hB rfl ht hP hD _ hMs hk1 hFc rfl
                clear hz1 hk1 hvm ht hB hMs
                have pl_f_6713 := e_x_6704_4.lins
                have hG := hG.trans (un10_eq e_x_6704_5)
                clear e_x_6645_4
                refine lv_goto (tgt := 233) hx hb dX7_readLine_174 (by decide) ?_
                exact wq_v hx hb hr 0 trivial (fun t ht hW => ⟨x_6704, x_6705, x_6706, x_6707, x_6708, x_6709, x_6710, x_6711, iM_fresherSize, f_6712, f_6713, fM_read, fM_fresher, b_x_6705, b_x_6708, b_x_6711, (om_dcd74bf2 e_x_6603_0 e_x_6617_0 e_x_6631_0 e_x_6645_0 e_x_6704_0), e_x_6704_1, (om_dcd74bf2 e_x_6603_2 e_x_6617_2 e_x_6631_2 e_x_6645_2 e_x_6704_2), (fun h9 => (om_cad042f1 e_x_6603_0 e_x_6617_0 e_x_6631_0 e_x_6645_0 (e_x_6704_3 ⟨h9.1, h9.2⟩))), e_x_6704_4, hG, Bw.to hP hD hK ht hW⟩) hS dX7_readLine_233 hlocks
            · skip
              have hG := hG.trans (if_neg c_6655)
              have gc_6655 := ti_ne c_6655 rfl kc_0
              replace gc_6655 : (-1) * x_6654.toInt + 1 ≤ 0 := om_e3003f79 gc_6655 dx_6654.1
              have h_6714 := e_x_6645_3 (by omega)
              clear e_x_6645_3
              refine lv_aload_n hx hb dX7_readLine_153 rfl (lv_at hl 0 rfl) ?_
              refine lv_iconst (v := 3) hx hb dX7_readLine_154 (by decide) ?_
              have hFc := va_freeI hD hS hA
              refine va_callv (va_runV (As := [.int 3]) (rest := []) ⟨hx, hb, hml, hown, hts⟩ (tX7_innerLine l dC dI _ oM iM_thrown rM_tape fM_tape kM_tape iM_taped iM_size x_6645 x_6646 x_6647 x_6648 x_6649 x_6650 x_6651 iM_trouble rM_letters f_6653 kM_letters x_6652 iM_hasCourt rM_r rM_fresh fM_fresh kM_fresh rM_told rM_read fM_read kM_read rM_st rM_undone rM_kept iM_undos iM_images rM_fresher fM_fresher kM_fresher iM_fresherSize iM_scale iM_night rM_heardRow rM_cutRow iM_breaths iM_cutMany iM_allBreaths rM_trial rM_words iM_fewestBreaths iM_orderMany iM_orderSum iM_leastOrder rM_often iM_setMany iM_someOf iM_allOf iM_allWeight iM_enoughWeight iM_worthSum iM_firstRest iM_leastDrawn 3 b_iM_taped b_iM_size b_x_6646 b_x_6649 b_x_6652 b_iM_hasCourt b_iM_undos b_iM_images b_iM_scale b_iM_breaths b_iM_cutMany e_x_6645_1 r_P ⟨(om_bf54f653 kc_3), (om_6eb7c803 kc_3)⟩ (by intro h9; have q0 := kc_0; have q1 := kc_1; have q2 := kc_2; have q3 := kc_3; omega) (by intro h9; have q0 := kc_0; have q1 := kc_1; have q2 := kc_2; have q3 := kc_3; omega)) (cwV 1 hts (wd_V wd_482 wd_483 wd_484 wd_5 (wd_c wd_485)) rfl rfl rfl dv_yX7_innerLine_1 ⟨Nat.le_of_ble_eq_true rfl, Nat.le_of_ble_eq_true rfl⟩) ⟨Pw.fb, recvX7 hK hP (q0 := 0) rfl, fun U hU hW => Pw.to hP hD hK hE hS hFc hU hW⟩ rfl rfl hl.1 rfl (lv_room (Nat.le_of_ble_eq_true rfl)) dX7_readLine_155 ⟨Nat.le_of_ble_eq_true rfl, Nat.le_of_ble_eq_true rfl⟩) hS (fun q _ h => hFc q h) hFc (fun u t H locs ht hvm hw hB hz1 hk1 hS => ?_)
              refine ex_13_9 hB (fun x_6715 x_6716 x_6717 x_6718 x_6719 x_6720 x_6721 x_6722 x_6723 f_6724 f_6725 f_6726 f_6727 b_x_6716 b_x_6719 b_x_6722 e_x_6715_0 e_x_6715_1 e_x_6715_2 e_x_6715_3 e_x_6715_4 e_x_6715_5 hB => ?_)
              obtain ⟨hP, hD⟩ := Bw.goA (ws' := [(oc7 oM iM_thrown rM_tape iM_taped iM_size x_6715 x_6716 x_6717 x_6718 x_6719 x_6720 x_6721 iM_trouble rM_letters x_6722 iM_hasCourt rM_r rM_fresh rM_told rM_read rM_st rM_undone rM_kept iM_undos iM_images rM_fresher x_6723 iM_scale iM_night rM_heardRow rM_cutRow iM_breaths iM_cutMany iM_allBreaths rM_trial rM_words iM_fewestBreaths iM_orderMany iM_orderSum iM_leastOrder rM_often iM_setMany iM_someOf iM_allOf iM_allWeight iM_enoughWeight iM_worthSum iM_firstRest iM_leastDrawn), (arI rM_tape kM_tape 900 fM_tape), (arI rM_letters kM_letters 8 f_6724), (arI rM_fresh kM_fresh 287 f_6725), (arI rM_read kM_read 90 f_6726), (arI rM_fresher kM_fresher 8 f_6727)]) hB rfl ht hFc rfl
              clear hz1 hk1 hvm ht hB
              have pl_f_6725 := e_x_6715_4.lins
              have hG := hG.trans (un13_eq e_x_6715_5)
              clear e_x_6645_1
              clear e_x_6645_4
              refine lv_goto (tgt := 233) hx hb dX7_readLine_158 (by decide) ?_
              exact wq_v hx hb hr 0 trivial (fun t ht hW => ⟨x_6715, x_6716, x_6717, x_6718, x_6719, x_6720, x_6721, x_6722, x_6723, f_6724, f_6725, f_6726, f_6727, b_x_6716, b_x_6719, b_x_6722, (om_dcd74bf2 e_x_6603_0 e_x_6617_0 e_x_6631_0 e_x_6645_0 e_x_6715_0), e_x_6715_1, (om_dcd74bf2 e_x_6603_2 e_x_6617_2 e_x_6631_2 e_x_6645_2 e_x_6715_2), (fun h9 => (om_cad042f1 e_x_6603_0 e_x_6617_0 e_x_6631_0 e_x_6645_0 (e_x_6715_3 ⟨h9.1, h9.2⟩))), e_x_6715_4, hG, Bw.to hP hD hK ht hW⟩) hS dX7_readLine_233 hlocks
          · skip
            have hG := hG.trans (if_neg c_6644)
            have gc_6644 := ti_nle c_6644 kc_8 rfl
            refine lv_aload_n hx hb dX7_readLine_131 rfl (lv_at hl 0 rfl) ?_
            refine va_get (D := (dC, dI)) (ci := 7) (v := .ref rM_fresh) (C := RX7) (T := TX7) (N := 48) hx hb hts inX7 hown hK hP 0 rfl rfl 16 (by decide) (hts _ wd_156) (fun _ h9 => h9) rfl dX7_readLine_132 ?_
            refine lv_bipush (v := 8) hx hb dX7_readLine_135 (by decide) ?_
            refine va_iald hx hb hK hP 3 2 rfl rfl (by unfold vp_in; decide) dX7_readLine_137 ?_
            refine lv_topi (fun x_6728 ex_6728 => ?_)
            have hG := hG.trans (lt_eq ex_6728)
            have cx_6728 : (fM_fresh 8).toInt = x_6728.toInt := congrArg Int32.toInt (show fM_fresh 8 = x_6728 from ex_6728.symm)
            refine lv_iconst (v := 2) hx hb dX7_readLine_138 (by decide) ?_
            refine vz_jgeX hx hb dX7_readLine_139 dX7_readLine_142 dX7_readLine_143 dX7_readLine_146 (fun x_6729 ex_6729 b_x_6729 j_x_6729 => ?_)
            have hG := hG.trans (lt_eq ex_6729)
            have j_x_6729 : 1 ≤ x_6729.toInt → x_6728.toInt < 2 := fun h9 => by have h8 := j_x_6729 h9; rw [kc_2] at h8; exact h8
            have hMs := ml_of hD [true, true, true, true, true, false] (wc := [(oc7 oM iM_thrown rM_tape iM_taped iM_size x_6631 x_6632 x_6633 x_6634 x_6635 x_6636 x_6637 iM_trouble rM_letters x_6638 iM_hasCourt rM_r rM_fresh rM_told rM_read rM_st rM_undone rM_kept iM_undos iM_images rM_fresher iM_fresherSize iM_scale iM_night rM_heardRow rM_cutRow iM_breaths iM_cutMany iM_allBreaths rM_trial rM_words iM_fewestBreaths iM_orderMany iM_orderSum iM_leastOrder rM_often iM_setMany iM_someOf iM_allOf iM_allWeight iM_enoughWeight iM_worthSum iM_firstRest iM_leastDrawn), (arI rM_tape kM_tape 900 fM_tape), (arI rM_letters kM_letters 8 f_6639), (arI rM_fresh kM_fresh 287 fM_fresh), (arI rM_read kM_read 90 fM_read)]) rfl
            have hFc := va_freeM hD hS hA _ hMs
            refine va_calli (va_runV (As := [.ref sa_6642, .int x_6729]) (rest := []) ⟨hx, hb, hml, hown, hts⟩ (tX7_begins l dC dI _ oM iM_thrown rM_tape fM_tape kM_tape iM_taped iM_size x_6631 x_6632 x_6633 x_6634 x_6635 x_6636 x_6637 iM_trouble rM_letters f_6639 kM_letters x_6638 iM_hasCourt rM_r rM_fresh fM_fresh kM_fresh rM_told rM_read fM_read kM_read rM_st rM_undone rM_kept iM_undos iM_images rM_fresher iM_fresherSize iM_scale iM_night rM_heardRow rM_cutRow iM_breaths iM_cutMany iM_allBreaths rM_trial rM_words iM_fewestBreaths iM_orderMany iM_orderSum iM_leastOrder rM_often iM_setMany iM_someOf iM_allOf iM_allWeight iM_enoughWeight iM_worthSum iM_firstRest iM_leastDrawn sa_6642 x_6729 vsa_6642 nsa_6642 fsa_6642 b_iM_taped b_iM_size b_x_6632 b_x_6635 b_x_6638 b_iM_hasCourt b_iM_undos b_iM_images b_iM_scale b_iM_breaths b_iM_cutMany e_x_6631_1 r_P (Nat.le_trans (Nat.le_of_eq hnesa_6642) (by decide)) (by first | assumption | (have q0 := kc_0; have q1 := kc_1; first | exact ⟨by omega, by omega⟩ | omega) | decide | (intro h; exact absurd h (by decide)))) (cwV 2 hts (wd_V wd_450 wd_451 wd_452 wd_5 (wd_c wd_453)) rfl rfl rfl dv_yX7_begins_2 ⟨Nat.le_of_ble_eq_true rfl, Nat.le_of_ble_eq_true rfl⟩) ⟨Pq.fb, recvX7 hK hP (q0 := 0) rfl, fun U hU hW => Pq.to (hP.ms _ hMs) (hD.ms _ hMs) (hK.ms [true, true, true, true, false] rfl) hSsa_6642 hE hS hFc hU hW⟩ rfl rfl hl.1 rfl (lv_room (Nat.le_of_ble_eq_true rfl)) dX7_readLine_147 ⟨Nat.le_of_ble_eq_true rfl, Nat.le_of_ble_eq_true rfl⟩) hS (fun q _ h => hFc q h) hFc (fun r u t H locs ht hvm hw hB hz1 hk1 hS => ?_)
            have hru9 := hw.2
            have hw := hw.1
            refine ex_9_9 hB (fun x_6730 x_6731 x_6732 x_6733 x_6734 x_6735 x_6736 x_6737 f_6738 b_x_6731 b_x_6734 b_x_6737 e_x_6730_0 e_x_6730_1 e_x_6730_2 e_x_6730_3 e_x_6730_4 e_x_6730_5 hB => ?_)
            obtain ⟨hP, hD⟩ := Bw.goN (ws' := [(oc7 oM iM_thrown rM_tape iM_taped iM_size x_6730 x_6731 x_6732 x_6733 x_6734 x_6735 x_6736 iM_trouble rM_letters x_6737 iM_hasCourt rM_r rM_fresh rM_told rM_read rM_st rM_undone rM_kept iM_undos iM_images rM_fresher iM_fresherSize iM_scale iM_night rM_heardRow rM_cutRow iM_breaths iM_cutMany iM_allBreaths rM_trial rM_words iM_fewestBreaths iM_orderMany iM_orderSum iM_leastOrder rM_often iM_setMany iM_someOf iM_allOf iM_allWeight iM_enoughWeight iM_worthSum iM_firstRest iM_leastDrawn), (arI rM_tape kM_tape 900 fM_tape), (arI rM_letters kM_letters 8 f_6738), (arI rM_fresh kM_fresh 287 fM_fresh), (arI rM_read kM_read 90 fM_read), (arI rM_fresher kM_fresher 8 fM_fresher)]) hB rfl ht hP hD _ hMs hk1 hFc rfl
            clear hz1 hk1 hvm ht hB hMs
            rw [← hru9] at e_x_6730_5
            obtain ⟨x_6739, rfl⟩ : ∃ z, z = r := ⟨_, rfl⟩
            have hG := hG.trans (un10_eq e_x_6730_5)
            have bx_6739 := hw.1
            have dx_6739 := bz_tb bx_6739
            have lx_6739 := hw.2
            clear e_x_6631_1
            clear e_x_6631_4
            refine lv_if_eq (tgt := 161) hx hb dX7_readLine_150 (by decide) (fun c_6740 => ?_) (fun c_6740 => ?_)
            · skip
              have hG := hG.trans (if_pos c_6740)
              have gc_6740 := ti_eq c_6740 rfl kc_0
              clear e_x_6730_3
              refine lv_aload_n hx hb dX7_readLine_161 rfl (lv_at hl 0 rfl) ?_
              obtain ⟨sa_6741, vsa_6741, nsa_6741, fsa_6741, hnsa_6741, hnesa_6741, hfesa_6741, hRsa_6741, hSsa_6741⟩ := hE.2.2.1 (144, "throne", [116, 104, 114, 111, 110, 101]) (by decide)
              have hG := hG.trans (lt_eq hnesa_6741)
              have hG := hG.trans (lt_eq hfesa_6741)
              refine va_ldcS hx hb hown hRsa_6741 dX7_readLine_162 ?_
              have hMs := ml_of hD [true, false, true, false, false, false] (wc := [(oc7 oM iM_thrown rM_tape iM_taped iM_size x_6730 x_6731 x_6732 x_6733 x_6734 x_6735 x_6736 iM_trouble rM_letters x_6737 iM_hasCourt rM_r rM_fresh rM_told rM_read rM_st rM_undone rM_kept iM_undos iM_images rM_fresher iM_fresherSize iM_scale iM_night rM_heardRow rM_cutRow iM_breaths iM_cutMany iM_allBreaths rM_trial rM_words iM_fewestBreaths iM_orderMany iM_orderSum iM_leastOrder rM_often iM_setMany iM_someOf iM_allOf iM_allWeight iM_enoughWeight iM_worthSum iM_firstRest iM_leastDrawn), (arI rM_letters kM_letters 8 f_6738)]) rfl
              have hFc := va_freeM hD hS hA _ hMs
              refine va_calli (va_runV (As := [.ref sa_6741]) (rest := []) ⟨hx, hb, hml, hown, hts⟩ (tX7_isWord l dC dI _ oM iM_thrown rM_tape iM_taped iM_size x_6730 x_6731 x_6732 x_6733 x_6734 x_6735 x_6736 iM_trouble rM_letters f_6738 kM_letters x_6737 iM_hasCourt rM_r rM_fresh rM_told rM_read rM_st rM_undone rM_kept iM_undos iM_images rM_fresher iM_fresherSize iM_scale iM_night rM_heardRow rM_cutRow iM_breaths iM_cutMany iM_allBreaths rM_trial rM_words iM_fewestBreaths iM_orderMany iM_orderSum iM_leastOrder rM_often iM_setMany iM_someOf iM_allOf iM_allWeight iM_enoughWeight iM_worthSum iM_firstRest iM_leastDrawn sa_6741 vsa_6741 nsa_6741 fsa_6741 b_iM_taped b_iM_size b_x_6731 b_x_6734 b_x_6737 b_iM_hasCourt b_iM_undos b_iM_images b_iM_scale b_iM_breaths b_iM_cutMany e_x_6730_1 (Nat.le_trans (Nat.le_of_eq hnesa_6741) (by decide))) (cwV 1 hts (wd_V wd_420 wd_421 wd_422 wd_5 (wd_c wd_423)) rfl rfl rfl dv_yX7_isWord_1 ⟨Nat.le_of_ble_eq_true rfl, Nat.le_of_ble_eq_true rfl⟩) ⟨Pq.fb, recvX7 hK hP (q0 := 0) rfl, fun U hU hW => Pq.to (hP.ms _ hMs) (hD.ms _ hMs) (hK.ms [false, true, false, false, false] rfl) hSsa_6741 hE hS hFc hU hW⟩ rfl rfl hl.1 rfl (lv_room (Nat.le_of_ble_eq_true rfl)) dX7_readLine_164 ⟨Nat.le_of_ble_eq_true rfl, Nat.le_of_ble_eq_true rfl⟩) hS (fun q _ h => hFc q h) hFc (fun r u t H locs ht hvm hw hB hz1 hk1 hS => ?_)
              have hru9 := hw.2
              have hw := hw.1
              obtain ⟨hP, hD⟩ := Bw.goN (ws' := [(oc7 oM iM_thrown rM_tape iM_taped iM_size x_6730 x_6731 x_6732 x_6733 x_6734 x_6735 x_6736 iM_trouble rM_letters x_6737 iM_hasCourt rM_r rM_fresh rM_told rM_read rM_st rM_undone rM_kept iM_undos iM_images rM_fresher iM_fresherSize iM_scale iM_night rM_heardRow rM_cutRow iM_breaths iM_cutMany iM_allBreaths rM_trial rM_words iM_fewestBreaths iM_orderMany iM_orderSum iM_leastOrder rM_often iM_setMany iM_someOf iM_allOf iM_allWeight iM_enoughWeight iM_worthSum iM_firstRest iM_leastDrawn), (arI rM_tape kM_tape 900 fM_tape), (arI rM_letters kM_letters 8 f_6738), (arI rM_fresh kM_fresh 287 fM_fresh), (arI rM_read kM_read 90 fM_read), (arI rM_fresher kM_fresher 8 fM_fresher)]) hB rfl ht hP hD _ hMs hk1 hFc rfl
              clear hz1 hk1 hvm ht hB hMs
              obtain ⟨x_6742, rfl⟩ : ∃ z, z = r := ⟨_, rfl⟩
              have hG := hG.trans (lt_eq hru9.symm)
              have bx_6742 := hw.1
              have dx_6742 := bz_tb bx_6742
              have lx_6742 := hw.2
              refine lv_if_eq (tgt := 177) hx hb dX7_readLine_167 (by decide) (fun c_6743 => ?_) (fun c_6743 => ?_)
              · skip
                have hG := hG.trans (if_pos c_6743)
                have gc_6743 := ti_eq c_6743 rfl kc_0
                clear lx_6742
                refine lv_aload_n hx hb dX7_readLine_177 rfl (lv_at hl 0 rfl) ?_
                obtain ⟨sa_6744, vsa_6744, nsa_6744, fsa_6744, hnsa_6744, hnesa_6744, hfesa_6744, hRsa_6744, hSsa_6744⟩ := hE.2.2.1 (146, "unsure", [117, 110, 115, 117, 114, 101]) (by decide)
                have hG := hG.trans (lt_eq hnesa_6744)
                have hG := hG.trans (lt_eq hfesa_6744)
                refine va_ldcS hx hb hown hRsa_6744 dX7_readLine_178 ?_
                refine lv_aload_n hx hb dX7_readLine_180 rfl (lv_at hl 0 rfl) ?_
                refine va_get (D := (dC, dI)) (ci := 7) (v := .ref rM_fresh) (C := RX7) (T := TX7) (N := 48) hx hb hts inX7 hown hK hP 0 rfl rfl 16 (by decide) (hts _ wd_156) (fun _ h9 => h9) rfl dX7_readLine_181 ?_
                refine lv_iconst (v := 3) hx hb dX7_readLine_184 (by decide) ?_
                refine va_iald hx hb hK hP 3 2 rfl rfl (by unfold vp_in; decide) dX7_readLine_185 ?_
                refine lv_topi (fun x_6745 ex_6745 => ?_)
                have hG := hG.trans (lt_eq ex_6745)
                have cx_6745 : (fM_fresh 3).toInt = x_6745.toInt := congrArg Int32.toInt (show fM_fresh 3 = x_6745 from ex_6745.symm)
                refine lv_iconst (v := 4) hx hb dX7_readLine_186 (by decide) ?_
                refine vz_jgeX hx hb dX7_readLine_187 dX7_readLine_190 dX7_readLine_191 dX7_readLine_194 (fun x_6746 ex_6746 b_x_6746 j_x_6746 => ?_)
                have hG := hG.trans (lt_eq ex_6746)
                have j_x_6746 : 1 ≤ x_6746.toInt → x_6745.toInt < 4 := fun h9 => by have h8 := j_x_6746 h9; rw [kc_4] at h8; exact h8
                have hMs := ml_of hD [true, true, true, true, true, false] (wc := [(oc7 oM iM_thrown rM_tape iM_taped iM_size x_6730 x_6731 x_6732 x_6733 x_6734 x_6735 x_6736 iM_trouble rM_letters x_6737 iM_hasCourt rM_r rM_fresh rM_told rM_read rM_st rM_undone rM_kept iM_undos iM_images rM_fresher iM_fresherSize iM_scale iM_night rM_heardRow rM_cutRow iM_breaths iM_cutMany iM_allBreaths rM_trial rM_words iM_fewestBreaths iM_orderMany iM_orderSum iM_leastOrder rM_often iM_setMany iM_someOf iM_allOf iM_allWeight iM_enoughWeight iM_worthSum iM_firstRest iM_leastDrawn), (arI rM_tape kM_tape 900 fM_tape), (arI rM_letters kM_letters 8 f_6738), (arI rM_fresh kM_fresh 287 fM_fresh), (arI rM_read kM_read 90 fM_read)]) rfl
                have hFc := va_freeM hD hS hA _ hMs
                refine va_calli (va_runV (As := [.ref sa_6744, .int x_6746]) (rest := []) ⟨hx, hb, hml, hown, hts⟩ (tX7_begins l dC dI _ oM iM_thrown rM_tape fM_tape kM_tape iM_taped iM_size x_6730 x_6731 x_6732 x_6733 x_6734 x_6735 x_6736 iM_trouble rM_letters f_6738 kM_letters x_6737 iM_hasCourt rM_r rM_fresh fM_fresh kM_fresh rM_told rM_read fM_read kM_read rM_st rM_undone rM_kept iM_undos iM_images rM_fresher iM_fresherSize iM_scale iM_night rM_heardRow rM_cutRow iM_breaths iM_cutMany iM_allBreaths rM_trial rM_words iM_fewestBreaths iM_orderMany iM_orderSum iM_leastOrder rM_often iM_setMany iM_someOf iM_allOf iM_allWeight iM_enoughWeight iM_worthSum iM_firstRest iM_leastDrawn sa_6744 x_6746 vsa_6744 nsa_6744 fsa_6744 b_iM_taped b_iM_size b_x_6731 b_x_6734 b_x_6737 b_iM_hasCourt b_iM_undos b_iM_images b_iM_scale b_iM_breaths b_iM_cutMany e_x_6730_1 r_P (Nat.le_trans (Nat.le_of_eq hnesa_6744) (by decide)) (by first | assumption | (have q0 := kc_0; have q1 := kc_1; first | exact ⟨by omega, by omega⟩ | omega) | decide | (intro h; exact absurd h (by decide)))) (cwV 2 hts (wd_V wd_450 wd_451 wd_452 wd_5 (wd_c wd_453)) rfl rfl rfl dv_yX7_begins_2 ⟨Nat.le_of_ble_eq_true rfl, Nat.le_of_ble_eq_true rfl⟩) ⟨Pq.fb, recvX7 hK hP (q0 := 0) rfl, fun U hU hW => Pq.to (hP.ms _ hMs) (hD.ms _ hMs) (hK.ms [true, true, true, true, false] rfl) hSsa_6744 hE hS hFc hU hW⟩ rfl rfl hl.1 rfl (lv_room (Nat.le_of_ble_eq_true rfl)) dX7_readLine_195 ⟨Nat.le_of_ble_eq_true rfl, Nat.le_of_ble_eq_true rfl⟩) hS (fun q _ h => hFc q h) hFc (fun r u t H locs ht hvm hw hB hz1 hk1 hS => ?_)
                have hru9 := hw.2
                have hw := hw.1
                refine ex_9_9 hB (fun x_6747 x_6748 x_6749 x_6750 x_6751 x_6752 x_6753 x_6754 f_6755 b_x_6748 b_x_6751 b_x_6754 e_x_6747_0 e_x_6747_1 e_x_6747_2 e_x_6747_3 e_x_6747_4 e_x_6747_5 hB => ?_)
                obtain ⟨hP, hD⟩ := Bw.goN (ws' := [(oc7 oM iM_thrown rM_tape iM_taped iM_size x_6747 x_6748 x_6749 x_6750 x_6751 x_6752 x_6753 iM_trouble rM_letters x_6754 iM_hasCourt rM_r rM_fresh rM_told rM_read rM_st rM_undone rM_kept iM_undos iM_images rM_fresher iM_fresherSize iM_scale iM_night rM_heardRow rM_cutRow iM_breaths iM_cutMany iM_allBreaths rM_trial rM_words iM_fewestBreaths iM_orderMany iM_orderSum iM_leastOrder rM_often iM_setMany iM_someOf iM_allOf iM_allWeight iM_enoughWeight iM_worthSum iM_firstRest iM_leastDrawn), (arI rM_tape kM_tape 900 fM_tape), (arI rM_letters kM_letters 8 f_6755), (arI rM_fresh kM_fresh 287 fM_fresh), (arI rM_read kM_read 90 fM_read), (arI rM_fresher kM_fresher 8 fM_fresher)]) hB rfl ht hP hD _ hMs hk1 hFc rfl
                clear hz1 hk1 hvm ht hB hMs
                rw [← hru9] at e_x_6747_5
                obtain ⟨x_6756, rfl⟩ : ∃ z, z = r := ⟨_, rfl⟩
                have hG := hG.trans (un10_eq e_x_6747_5)
                have bx_6756 := hw.1
                have dx_6756 := bz_tb bx_6756
                have lx_6756 := hw.2
                clear e_x_6730_1
                clear e_x_6730_4
                refine lv_if_eq (tgt := 208) hx hb dX7_readLine_198 (by decide) (fun c_6757 => ?_) (fun c_6757 => ?_)
                · skip
                  have hG := hG.trans (if_pos c_6757)
                  have gc_6757 := ti_eq c_6757 rfl kc_0
                  clear e_x_6747_3
                  refine lv_aload_n hx hb dX7_readLine_208 rfl (lv_at hl 0 rfl) ?_
                  obtain ⟨sa_6758, vsa_6758, nsa_6758, fsa_6758, hnsa_6758, hnesa_6758, hfesa_6758, hRsa_6758, hSsa_6758⟩ := hE.2.2.1 (148, "said", [115, 97, 105, 100]) (by decide)
                  have hG := hG.trans (lt_eq hnesa_6758)
                  have hG := hG.trans (lt_eq hfesa_6758)
                  refine va_ldcS hx hb hown hRsa_6758 dX7_readLine_209 ?_
                  have hMs := ml_of hD [true, false, true, false, false, false] (wc := [(oc7 oM iM_thrown rM_tape iM_taped iM_size x_6747 x_6748 x_6749 x_6750 x_6751 x_6752 x_6753 iM_trouble rM_letters x_6754 iM_hasCourt rM_r rM_fresh rM_told rM_read rM_st rM_undone rM_kept iM_undos iM_images rM_fresher iM_fresherSize iM_scale iM_night rM_heardRow rM_cutRow iM_breaths iM_cutMany iM_allBreaths rM_trial rM_words iM_fewestBreaths iM_orderMany iM_orderSum iM_leastOrder rM_often iM_setMany iM_someOf iM_allOf iM_allWeight iM_enoughWeight iM_worthSum iM_firstRest iM_leastDrawn), (arI rM_letters kM_letters 8 f_6755)]) rfl
                  have hFc := va_freeM hD hS hA _ hMs
                  refine va_calli (va_runV (As := [.ref sa_6758]) (rest := []) ⟨hx, hb, hml, hown, hts⟩ (tX7_isWord l dC dI _ oM iM_thrown rM_tape iM_taped iM_size x_6747 x_6748 x_6749 x_6750 x_6751 x_6752 x_6753 iM_trouble rM_letters f_6755 kM_letters x_6754 iM_hasCourt rM_r rM_fresh rM_told rM_read rM_st rM_undone rM_kept iM_undos iM_images rM_fresher iM_fresherSize iM_scale iM_night rM_heardRow rM_cutRow iM_breaths iM_cutMany iM_allBreaths rM_trial rM_words iM_fewestBreaths iM_orderMany iM_orderSum iM_leastOrder rM_often iM_setMany iM_someOf iM_allOf iM_allWeight iM_enoughWeight iM_worthSum iM_firstRest iM_leastDrawn sa_6758 vsa_6758 nsa_6758 fsa_6758 b_iM_taped b_iM_size b_x_6748 b_x_6751 b_x_6754 b_iM_hasCourt b_iM_undos b_iM_images b_iM_scale b_iM_breaths b_iM_cutMany e_x_6747_1 (Nat.le_trans (Nat.le_of_eq hnesa_6758) (by decide))) (cwV 1 hts (wd_V wd_420 wd_421 wd_422 wd_5 (wd_c wd_423)) rfl rfl rfl dv_yX7_isWord_1 ⟨Nat.le_of_ble_eq_true rfl, Nat.le_of_ble_eq_true rfl⟩) ⟨Pq.fb, recvX7 hK hP (q0 := 0) rfl, fun U hU hW => Pq.to (hP.ms _ hMs) (hD.ms _ hMs) (hK.ms [false, true, false, false, false] rfl) hSsa_6758 hE hS hFc hU hW⟩ rfl rfl hl.1 rfl (lv_room (Nat.le_of_ble_eq_true rfl)) dX7_readLine_211 ⟨Nat.le_of_ble_eq_true rfl, Nat.le_of_ble_eq_true rfl⟩) hS (fun q _ h => hFc q h) hFc (fun r u t H locs ht hvm hw hB hz1 hk1 hS => ?_)
                  have hru9 := hw.2
                  have hw := hw.1
                  obtain ⟨hP, hD⟩ := Bw.goN (ws' := [(oc7 oM iM_thrown rM_tape iM_taped iM_size x_6747 x_6748 x_6749 x_6750 x_6751 x_6752 x_6753 iM_trouble rM_letters x_6754 iM_hasCourt rM_r rM_fresh rM_told rM_read rM_st rM_undone rM_kept iM_undos iM_images rM_fresher iM_fresherSize iM_scale iM_night rM_heardRow rM_cutRow iM_breaths iM_cutMany iM_allBreaths rM_trial rM_words iM_fewestBreaths iM_orderMany iM_orderSum iM_leastOrder rM_often iM_setMany iM_someOf iM_allOf iM_allWeight iM_enoughWeight iM_worthSum iM_firstRest iM_leastDrawn), (arI rM_tape kM_tape 900 fM_tape), (arI rM_letters kM_letters 8 f_6755), (arI rM_fresh kM_fresh 287 fM_fresh), (arI rM_read kM_read 90 fM_read), (arI rM_fresher kM_fresher 8 fM_fresher)]) hB rfl ht hP hD _ hMs hk1 hFc rfl
                  clear hz1 hk1 hvm ht hB hMs
                  obtain ⟨x_6759, rfl⟩ : ∃ z, z = r := ⟨_, rfl⟩
                  have hG := hG.trans (lt_eq hru9.symm)
                  have bx_6759 := hw.1
                  have dx_6759 := bz_tb bx_6759
                  have lx_6759 := hw.2
                  refine lv_if_eq (tgt := 224) hx hb dX7_readLine_214 (by decide) (fun c_6760 => ?_) (fun c_6760 => ?_)
                  · skip
                    have hG := hG.trans (if_pos c_6760)
                    have gc_6760 := ti_eq c_6760 rfl kc_0
                    clear lx_6759
                    refine lv_aload_n hx hb dX7_readLine_224 rfl (lv_at hl 0 rfl) ?_
                    refine lv_iconst (v := 1) hx hb dX7_readLine_225 (by decide) ?_
                    refine lv_aload_n hx hb dX7_readLine_226 rfl (lv_at hl 0 rfl) ?_
                    refine va_get (D := (dC, dI)) (ci := 7) (v := .int x_6747) (C := RX7) (T := TX7) (N := 48) hx hb hts inX7 hown hK hP 0 rfl rfl 4 (by decide) (hts _ wd_384) (fun _ h9 => h9) rfl dX7_readLine_227 ?_
                    have hMs := ml_of hD [true, false, false, false, false, false] (wc := [(oc7 oM iM_thrown rM_tape iM_taped iM_size x_6747 x_6748 x_6749 x_6750 x_6751 x_6752 x_6753 iM_trouble rM_letters x_6754 iM_hasCourt rM_r rM_fresh rM_told rM_read rM_st rM_undone rM_kept iM_undos iM_images rM_fresher iM_fresherSize iM_scale iM_night rM_heardRow rM_cutRow iM_breaths iM_cutMany iM_allBreaths rM_trial rM_words iM_fewestBreaths iM_orderMany iM_orderSum iM_leastOrder rM_often iM_setMany iM_someOf iM_allOf iM_allWeight iM_enoughWeight iM_worthSum iM_firstRest iM_leastDrawn)]) rfl
                    have hFc := va_freeM hD hS hA _ hMs
                    refine va_callv (va_runV (As := [.int 1, .int x_6747]) (rest := []) ⟨hx, hb, hml, hown, hts⟩ (tX7_wrong l dC dI _ oM iM_thrown rM_tape iM_taped iM_size x_6747 x_6748 x_6749 x_6750 x_6751 x_6752 x_6753 iM_trouble rM_letters x_6754 iM_hasCourt rM_r rM_fresh rM_told rM_read rM_st rM_undone rM_kept iM_undos iM_images rM_fresher iM_fresherSize iM_scale iM_night rM_heardRow rM_cutRow iM_breaths iM_cutMany iM_allBreaths rM_trial rM_words iM_fewestBreaths iM_orderMany iM_orderSum iM_leastOrder rM_often iM_setMany iM_someOf iM_allOf iM_allWeight iM_enoughWeight iM_worthSum iM_firstRest iM_leastDrawn 1 x_6747 b_iM_taped b_iM_size b_x_6748 b_x_6751 b_x_6754 b_iM_hasCourt b_iM_undos b_iM_images b_iM_scale b_iM_breaths b_iM_cutMany e_x_6747_1) (cwV 2 hts (wd_V wd_430 wd_431 wd_432 wd_5 (wd_c wd_433)) rfl rfl rfl dv_yX7_wrong_2 ⟨Nat.le_of_ble_eq_true rfl, Nat.le_of_ble_eq_true rfl⟩) ⟨Pw.fb, recvX7 hK hP (q0 := 0) rfl, fun U hU hW => Pw.to (hP.ms _ hMs) (hD.ms _ hMs) (hK.ms [false, false, false, false, false] rfl) hE hS hFc hU hW⟩ rfl rfl hl.1 rfl (lv_room (Nat.le_of_ble_eq_true rfl)) dX7_readLine_230 ⟨Nat.le_of_ble_eq_true rfl, Nat.le_of_ble_eq_true rfl⟩) hS (fun q _ h => hFc q h) hFc (fun u t H locs ht hvm hw hB hz1 hk1 hS => ?_)
                    refine ex_3_3 hB (fun x_6761 x_6762 x_6763 b_x_6763 e_x_6761_0 e_x_6761_1 hB => ?_)
                    obtain ⟨hP, hD⟩ := Bw.goN (ws' := [(oc7 oM iM_thrown rM_tape iM_taped iM_size x_6747 x_6748 x_6749 x_6750 x_6751 x_6761 x_6762 iM_trouble rM_letters x_6763 iM_hasCourt rM_r rM_fresh rM_told rM_read rM_st rM_undone rM_kept iM_undos iM_images rM_fresher iM_fresherSize iM_scale iM_night rM_heardRow rM_cutRow iM_breaths iM_cutMany iM_allBreaths rM_trial rM_words iM_fewestBreaths iM_orderMany iM_orderSum iM_leastOrder rM_often iM_setMany iM_someOf iM_allOf iM_allWeight iM_enoughWeight iM_worthSum iM_firstRest iM_leastDrawn), (arI rM_tape kM_tape 900 fM_tape), (arI rM_letters kM_letters 8 f_6755), (arI rM_fresh kM_fresh 287 fM_fresh), (arI rM_read kM_read 90 fM_read), (arI rM_fresher kM_fresher 8 fM_fresher)]) hB rfl ht hP hD _ hMs hk1 hFc rfl
                    clear hz1 hk1 hvm ht hB hMs
                    have hG := hG.trans (un3_eq e_x_6761_1)
                    exact wq_v hx hb hr 0 trivial (fun t ht hW => ⟨x_6747, x_6748, x_6749, x_6750, x_6751, x_6761, x_6762, x_6763, iM_fresherSize, f_6755, fM_fresh, fM_read, fM_fresher, b_x_6748, b_x_6751, b_x_6763, (om_dcd74bf2 e_x_6603_0 e_x_6617_0 e_x_6631_0 e_x_6730_0 e_x_6747_0), e_x_6747_1, (om_00f1c5dd b_iM_failed.2 e_x_6761_0), (fun h9 => False.elim (om_92495247 e_x_6761_0 h9.1)), r_P, hG, Bw.to hP hD hK ht hW⟩) hS dX7_readLine_233 hlocks
                  · skip
                    have hG := hG.trans (if_neg c_6760)
                    have gc_6760 := ti_ne c_6760 rfl kc_0
                    replace gc_6760 : (-1) * x_6759.toInt + 1 ≤ 0 := om_e3003f79 gc_6760 dx_6759.1
                    have h_6764 : x_6749.toInt = 2 := lx_6759 (om_7907a7c1 dx_6759.2 gc_6760)
                    clear lx_6759
                    have h_6765 : x_6751.toInt ≤ 8 := e_x_6747_1 h_6764
                    clear e_x_6747_1
                    refine lv_aload_n hx hb dX7_readLine_217 rfl (lv_at hl 0 rfl) ?_
                    have hMs := ml_of hD [true, true, true, true, true, false] (wc := [(oc7 oM iM_thrown rM_tape iM_taped iM_size x_6747 x_6748 x_6749 x_6750 x_6751 x_6752 x_6753 iM_trouble rM_letters x_6754 iM_hasCourt rM_r rM_fresh rM_told rM_read rM_st rM_undone rM_kept iM_undos iM_images rM_fresher iM_fresherSize iM_scale iM_night rM_heardRow rM_cutRow iM_breaths iM_cutMany iM_allBreaths rM_trial rM_words iM_fewestBreaths iM_orderMany iM_orderSum iM_leastOrder rM_often iM_setMany iM_someOf iM_allOf iM_allWeight iM_enoughWeight iM_worthSum iM_firstRest iM_leastDrawn), (arI rM_tape kM_tape 900 fM_tape), (arI rM_letters kM_letters 8 f_6755), (arI rM_fresh kM_fresh 287 fM_fresh), (arI rM_read kM_read 90 fM_read)]) rfl
                    have hFc := va_freeM hD hS hA _ hMs
                    refine va_callv (va_runV (As := []) (rest := []) ⟨hx, hb, hml, hown, hts⟩ (tX7_saidLine l dC dI _ oM iM_thrown rM_tape fM_tape kM_tape iM_taped iM_size x_6747 x_6748 x_6749 x_6750 x_6751 x_6752 x_6753 iM_trouble rM_letters f_6755 kM_letters x_6754 iM_hasCourt rM_r rM_fresh fM_fresh kM_fresh rM_told rM_read fM_read kM_read rM_st rM_undone rM_kept iM_undos iM_images rM_fresher iM_fresherSize iM_scale iM_night rM_heardRow rM_cutRow iM_breaths iM_cutMany iM_allBreaths rM_trial rM_words iM_fewestBreaths iM_orderMany iM_orderSum iM_leastOrder rM_often iM_setMany iM_someOf iM_allOf iM_allWeight iM_enoughWeight iM_worthSum iM_firstRest iM_leastDrawn b_iM_taped b_iM_size b_x_6748 b_x_6751 b_x_6754 b_iM_hasCourt b_iM_undos b_iM_images b_iM_scale b_iM_breaths b_iM_cutMany (fun h9 => h_6765) r_P) (cwV 0 hts (wd_V wd_498 wd_499 wd_500 wd_5 (wd_c wd_501)) rfl rfl rfl dv_yX7_saidLine_0 ⟨Nat.le_of_ble_eq_true rfl, Nat.le_of_ble_eq_true rfl⟩) ⟨Pw.fb, recvX7 hK hP (q0 := 0) rfl, fun U hU hW => Pw.to (hP.ms _ hMs) (hD.ms _ hMs) (hK.ms [true, true, true, true, false] rfl) hE hS hFc hU hW⟩ rfl rfl hl.1 rfl (lv_room (Nat.le_of_ble_eq_true rfl)) dX7_readLine_218 ⟨Nat.le_of_ble_eq_true rfl, Nat.le_of_ble_eq_true rfl⟩) hS (fun q _ h => hFc q h) hFc (fun u t H locs ht hvm hw hB hz1 hk1 hS => ?_)
                    refine ex_10_9 hB (fun x_6766 x_6767 x_6768 x_6769 x_6770 x_6771 x_6772 x_6773 f_6774 f_6775 b_x_6767 b_x_6770 b_x_6773 e_x_6766_0 e_x_6766_1 e_x_6766_2 e_x_6766_3 e_x_6766_4 e_x_6766_5 hB => ?_)
                    obtain ⟨hP, hD⟩ := Bw.goN (ws' := [(oc7 oM iM_thrown rM_tape iM_taped iM_size x_6766 x_6767 x_6768 x_6769 x_6770 x_6771 x_6772 iM_trouble rM_letters x_6773 iM_hasCourt rM_r rM_fresh rM_told rM_read rM_st rM_undone rM_kept iM_undos iM_images rM_fresher iM_fresherSize iM_scale iM_night rM_heardRow rM_cutRow iM_breaths iM_cutMany iM_allBreaths rM_trial rM_words iM_fewestBreaths iM_orderMany iM_orderSum iM_leastOrder rM_often iM_setMany iM_someOf iM_allOf iM_allWeight iM_enoughWeight iM_worthSum iM_firstRest iM_leastDrawn), (arI rM_tape kM_tape 900 fM_tape), (arI rM_letters kM_letters 8 f_6774), (arI rM_fresh kM_fresh 287 f_6775), (arI rM_read kM_read 90 fM_read), (arI rM_fresher kM_fresher 8 fM_fresher)]) hB rfl ht hP hD _ hMs hk1 hFc rfl
                    clear hz1 hk1 hvm ht hB hMs
                    have pl_f_6775 := e_x_6766_4.lins
                    have hG := hG.trans (un10_eq e_x_6766_5)
                    clear e_x_6747_4
                    refine lv_goto (tgt := 233) hx hb dX7_readLine_221 (by decide) ?_
                    exact wq_v hx hb hr 0 trivial (fun t ht hW => ⟨x_6766, x_6767, x_6768, x_6769, x_6770, x_6771, x_6772, x_6773, iM_fresherSize, f_6774, f_6775, fM_read, fM_fresher, b_x_6767, b_x_6770, b_x_6773, (om_ac7239fc e_x_6603_0 e_x_6617_0 e_x_6631_0 e_x_6730_0 e_x_6747_0 e_x_6766_0), e_x_6766_1, (om_ac7239fc e_x_6603_2 e_x_6617_2 e_x_6631_2 e_x_6730_2 e_x_6747_2 e_x_6766_2), (fun h9 => (om_ab9846f4 e_x_6603_0 e_x_6617_0 e_x_6631_0 e_x_6730_0 e_x_6747_0 (e_x_6766_3 ⟨h9.1, h9.2⟩))), e_x_6766_4, hG, Bw.to hP hD hK ht hW⟩) hS dX7_readLine_233 hlocks
                · skip
                  have hG := hG.trans (if_neg c_6757)
                  have gc_6757 := ti_ne c_6757 rfl kc_0
                  replace gc_6757 : (-1) * x_6756.toInt + 1 ≤ 0 := om_e3003f79 gc_6757 dx_6756.1
                  have h_6776 := e_x_6747_3 (by omega)
                  clear e_x_6747_3
                  refine lv_aload_n hx hb dX7_readLine_201 rfl (lv_at hl 0 rfl) ?_
                  have hMs := ml_of hD [true, true, true, true, true, false] (wc := [(oc7 oM iM_thrown rM_tape iM_taped iM_size x_6747 x_6748 x_6749 x_6750 x_6751 x_6752 x_6753 iM_trouble rM_letters x_6754 iM_hasCourt rM_r rM_fresh rM_told rM_read rM_st rM_undone rM_kept iM_undos iM_images rM_fresher iM_fresherSize iM_scale iM_night rM_heardRow rM_cutRow iM_breaths iM_cutMany iM_allBreaths rM_trial rM_words iM_fewestBreaths iM_orderMany iM_orderSum iM_leastOrder rM_often iM_setMany iM_someOf iM_allOf iM_allWeight iM_enoughWeight iM_worthSum iM_firstRest iM_leastDrawn), (arI rM_tape kM_tape 900 fM_tape), (arI rM_letters kM_letters 8 f_6755), (arI rM_fresh kM_fresh 287 fM_fresh), (arI rM_read kM_read 90 fM_read)]) rfl
                  have hFc := va_freeM hD hS hA _ hMs
                  refine va_callv (va_runV (As := []) (rest := []) ⟨hx, hb, hml, hown, hts⟩ (tX7_unsureLine l dC dI _ oM iM_thrown rM_tape fM_tape kM_tape iM_taped iM_size x_6747 x_6748 x_6749 x_6750 x_6751 x_6752 x_6753 iM_trouble rM_letters f_6755 kM_letters x_6754 iM_hasCourt rM_r rM_fresh fM_fresh kM_fresh rM_told rM_read fM_read kM_read rM_st rM_undone rM_kept iM_undos iM_images rM_fresher iM_fresherSize iM_scale iM_night rM_heardRow rM_cutRow iM_breaths iM_cutMany iM_allBreaths rM_trial rM_words iM_fewestBreaths iM_orderMany iM_orderSum iM_leastOrder rM_often iM_setMany iM_someOf iM_allOf iM_allWeight iM_enoughWeight iM_worthSum iM_firstRest iM_leastDrawn b_iM_taped b_iM_size b_x_6748 b_x_6751 b_x_6754 b_iM_hasCourt b_iM_undos b_iM_images b_iM_scale b_iM_breaths b_iM_cutMany e_x_6747_1 r_P (by intro h9; have q0 := kc_0; have q1 := kc_1; have q2 := kc_2; have q3 := kc_3; omega)) (cwV 0 hts (wd_V wd_494 wd_495 wd_496 wd_5 (wd_c wd_497)) rfl rfl rfl dv_yX7_unsureLine_0 ⟨Nat.le_of_ble_eq_true rfl, Nat.le_of_ble_eq_true rfl⟩) ⟨Pw.fb, recvX7 hK hP (q0 := 0) rfl, fun U hU hW => Pw.to (hP.ms _ hMs) (hD.ms _ hMs) (hK.ms [true, true, true, true, false] rfl) hE hS hFc hU hW⟩ rfl rfl hl.1 rfl (lv_room (Nat.le_of_ble_eq_true rfl)) dX7_readLine_202 ⟨Nat.le_of_ble_eq_true rfl, Nat.le_of_ble_eq_true rfl⟩) hS (fun q _ h => hFc q h) hFc (fun u t H locs ht hvm hw hB hz1 hk1 hS => ?_)
                  refine ex_10_9 hB (fun x_6777 x_6778 x_6779 x_6780 x_6781 x_6782 x_6783 x_6784 f_6785 f_6786 b_x_6778 b_x_6781 b_x_6784 e_x_6777_0 e_x_6777_1 e_x_6777_2 e_x_6777_3 e_x_6777_4 e_x_6777_5 hB => ?_)
                  obtain ⟨hP, hD⟩ := Bw.goN (ws' := [(oc7 oM iM_thrown rM_tape iM_taped iM_size x_6777 x_6778 x_6779 x_6780 x_6781 x_6782 x_6783 iM_trouble rM_letters x_6784 iM_hasCourt rM_r rM_fresh rM_told rM_read rM_st rM_undone rM_kept iM_undos iM_images rM_fresher iM_fresherSize iM_scale iM_night rM_heardRow rM_cutRow iM_breaths iM_cutMany iM_allBreaths rM_trial rM_words iM_fewestBreaths iM_orderMany iM_orderSum iM_leastOrder rM_often iM_setMany iM_someOf iM_allOf iM_allWeight iM_enoughWeight iM_worthSum iM_firstRest iM_leastDrawn), (arI rM_tape kM_tape 900 fM_tape), (arI rM_letters kM_letters 8 f_6785), (arI rM_fresh kM_fresh 287 f_6786), (arI rM_read kM_read 90 fM_read), (arI rM_fresher kM_fresher 8 fM_fresher)]) hB rfl ht hP hD _ hMs hk1 hFc rfl
                  clear hz1 hk1 hvm ht hB hMs
                  have pl_f_6786 := e_x_6777_4.lins
                  have hG := hG.trans (un10_eq e_x_6777_5)
                  clear e_x_6747_1
                  clear e_x_6747_4
                  refine lv_goto (tgt := 233) hx hb dX7_readLine_205 (by decide) ?_
                  exact wq_v hx hb hr 0 trivial (fun t ht hW => ⟨x_6777, x_6778, x_6779, x_6780, x_6781, x_6782, x_6783, x_6784, iM_fresherSize, f_6785, f_6786, fM_read, fM_fresher, b_x_6778, b_x_6781, b_x_6784, (om_ac7239fc e_x_6603_0 e_x_6617_0 e_x_6631_0 e_x_6730_0 e_x_6747_0 e_x_6777_0), e_x_6777_1, (om_ac7239fc e_x_6603_2 e_x_6617_2 e_x_6631_2 e_x_6730_2 e_x_6747_2 e_x_6777_2), (fun h9 => (om_ab9846f4 e_x_6603_0 e_x_6617_0 e_x_6631_0 e_x_6730_0 e_x_6747_0 (e_x_6777_3 ⟨h9.1, h9.2⟩))), e_x_6777_4, hG, Bw.to hP hD hK ht hW⟩) hS dX7_readLine_233 hlocks
              · skip
                have hG := hG.trans (if_neg c_6743)
                have gc_6743 := ti_ne c_6743 rfl kc_0
                replace gc_6743 : (-1) * x_6742.toInt + 1 ≤ 0 := om_e3003f79 gc_6743 dx_6742.1
                have h_6787 : x_6732.toInt = 2 := lx_6742 (om_7907a7c1 dx_6742.2 gc_6743)
                clear lx_6742
                have h_6788 : x_6734.toInt ≤ 8 := e_x_6730_1 h_6787
                clear e_x_6730_1
                refine lv_aload_n hx hb dX7_readLine_170 rfl (lv_at hl 0 rfl) ?_
                have hMs := ml_of hD [true, true, true, true, true, false] (wc := [(oc7 oM iM_thrown rM_tape iM_taped iM_size x_6730 x_6731 x_6732 x_6733 x_6734 x_6735 x_6736 iM_trouble rM_letters x_6737 iM_hasCourt rM_r rM_fresh rM_told rM_read rM_st rM_undone rM_kept iM_undos iM_images rM_fresher iM_fresherSize iM_scale iM_night rM_heardRow rM_cutRow iM_breaths iM_cutMany iM_allBreaths rM_trial rM_words iM_fewestBreaths iM_orderMany iM_orderSum iM_leastOrder rM_often iM_setMany iM_someOf iM_allOf iM_allWeight iM_enoughWeight iM_worthSum iM_firstRest iM_leastDrawn), (arI rM_tape kM_tape 900 fM_tape), (arI rM_letters kM_letters 8 f_6738), (arI rM_fresh kM_fresh 287 fM_fresh), (arI rM_read kM_read 90 fM_read)]) rfl
                have hFc := va_freeM hD hS hA _ hMs
                refine va_callv (va_runV (As := []) (rest := []) ⟨hx, hb, hml, hown, hts⟩ (tX7_throneLine l dC dI _ oM iM_thrown rM_tape fM_tape kM_tape iM_taped iM_size x_6730 x_6731 x_6732 x_6733 x_6734 x_6735 x_6736 iM_trouble rM_letters f_6738 kM_letters x_6737 iM_hasCourt rM_r rM_fresh fM_fresh kM_fresh rM_told rM_read fM_read kM_read rM_st rM_undone rM_kept iM_undos iM_images rM_fresher iM_fresherSize iM_scale iM_night rM_heardRow rM_cutRow iM_breaths iM_cutMany iM_allBreaths rM_trial rM_words iM_fewestBreaths iM_orderMany iM_orderSum iM_leastOrder rM_often iM_setMany iM_someOf iM_allOf iM_allWeight iM_enoughWeight iM_worthSum iM_firstRest iM_leastDrawn b_iM_taped b_iM_size b_x_6731 b_x_6734 b_x_6737 b_iM_hasCourt b_iM_undos b_iM_images b_iM_scale b_iM_breaths b_iM_cutMany (fun h9 => h_6788) r_P) (cwV 0 hts (wd_V wd_490 wd_491 wd_492 wd_5 (wd_c wd_493)) rfl rfl rfl dv_yX7_throneLine_0 ⟨Nat.le_of_ble_eq_true rfl, Nat.le_of_ble_eq_true rfl⟩) ⟨Pw.fb, recvX7 hK hP (q0 := 0) rfl, fun U hU hW => Pw.to (hP.ms _ hMs) (hD.ms _ hMs) (hK.ms [true, true, true, true, false] rfl) hE hS hFc hU hW⟩ rfl rfl hl.1 rfl (lv_room (Nat.le_of_ble_eq_true rfl)) dX7_readLine_171 ⟨Nat.le_of_ble_eq_true rfl, Nat.le_of_ble_eq_true rfl⟩) hS (fun q _ h => hFc q h) hFc (fun u t H locs ht hvm hw hB hz1 hk1 hS => ?_)
                refine ex_10_9 hB (fun x_6789 x_6790 x_6791 x_6792 x_6793 x_6794 x_6795 x_6796 f_6797 f_6798 b_x_6790 b_x_6793 b_x_6796 e_x_6789_0 e_x_6789_1 e_x_6789_2 e_x_6789_3 e_x_6789_4 e_x_6789_5 hB => ?_)
                obtain ⟨hP, hD⟩ := Bw.goN (ws' := [(oc7 oM iM_thrown rM_tape iM_taped iM_size x_6789 x_6790 x_6791 x_6792 x_6793 x_6794 x_6795 iM_trouble rM_letters x_6796 iM_hasCourt rM_r rM_fresh rM_told rM_read rM_st rM_undone rM_kept iM_undos iM_images rM_fresher iM_fresherSize iM_scale iM_night rM_heardRow rM_cutRow iM_breaths iM_cutMany iM_allBreaths rM_trial rM_words iM_fewestBreaths iM_orderMany iM_orderSum iM_leastOrder rM_often iM_setMany iM_someOf iM_allOf iM_allWeight iM_enoughWeight iM_worthSum iM_firstRest iM_leastDrawn), (arI rM_tape kM_tape 900 fM_tape), (arI rM_letters kM_letters 8 f_6797), (arI rM_fresh kM_fresh 287 f_6798), (arI rM_read kM_read 90 fM_read), (arI rM_fresher kM_fresher 8 fM_fresher)]) hB rfl ht hP hD _ hMs hk1 hFc rfl
                clear hz1 hk1 hvm ht hB hMs
                have pl_f_6798 := e_x_6789_4.lins
                have hG := hG.trans (un10_eq e_x_6789_5)
                clear e_x_6730_4
                refine lv_goto (tgt := 233) hx hb dX7_readLine_174 (by decide) ?_
                exact wq_v hx hb hr 0 trivial (fun t ht hW => ⟨x_6789, x_6790, x_6791, x_6792, x_6793, x_6794, x_6795, x_6796, iM_fresherSize, f_6797, f_6798, fM_read, fM_fresher, b_x_6790, b_x_6793, b_x_6796, (om_dcd74bf2 e_x_6603_0 e_x_6617_0 e_x_6631_0 e_x_6730_0 e_x_6789_0), e_x_6789_1, (om_dcd74bf2 e_x_6603_2 e_x_6617_2 e_x_6631_2 e_x_6730_2 e_x_6789_2), (fun h9 => (om_cad042f1 e_x_6603_0 e_x_6617_0 e_x_6631_0 e_x_6730_0 (e_x_6789_3 ⟨h9.1, h9.2⟩))), e_x_6789_4, hG, Bw.to hP hD hK ht hW⟩) hS dX7_readLine_233 hlocks
            · skip
              have hG := hG.trans (if_neg c_6740)
              have gc_6740 := ti_ne c_6740 rfl kc_0
              replace gc_6740 : (-1) * x_6739.toInt + 1 ≤ 0 := om_e3003f79 gc_6740 dx_6739.1
              have h_6799 := e_x_6730_3 (by omega)
              clear e_x_6730_3
              refine lv_aload_n hx hb dX7_readLine_153 rfl (lv_at hl 0 rfl) ?_
              refine lv_iconst (v := 3) hx hb dX7_readLine_154 (by decide) ?_
              have hFc := va_freeI hD hS hA
              refine va_callv (va_runV (As := [.int 3]) (rest := []) ⟨hx, hb, hml, hown, hts⟩ (tX7_innerLine l dC dI _ oM iM_thrown rM_tape fM_tape kM_tape iM_taped iM_size x_6730 x_6731 x_6732 x_6733 x_6734 x_6735 x_6736 iM_trouble rM_letters f_6738 kM_letters x_6737 iM_hasCourt rM_r rM_fresh fM_fresh kM_fresh rM_told rM_read fM_read kM_read rM_st rM_undone rM_kept iM_undos iM_images rM_fresher fM_fresher kM_fresher iM_fresherSize iM_scale iM_night rM_heardRow rM_cutRow iM_breaths iM_cutMany iM_allBreaths rM_trial rM_words iM_fewestBreaths iM_orderMany iM_orderSum iM_leastOrder rM_often iM_setMany iM_someOf iM_allOf iM_allWeight iM_enoughWeight iM_worthSum iM_firstRest iM_leastDrawn 3 b_iM_taped b_iM_size b_x_6731 b_x_6734 b_x_6737 b_iM_hasCourt b_iM_undos b_iM_images b_iM_scale b_iM_breaths b_iM_cutMany e_x_6730_1 r_P ⟨(om_bf54f653 kc_3), (om_6eb7c803 kc_3)⟩ (fun h9 => (om_0511bc05 cx_6643 gc_6644)) (by intro h9; have q0 := kc_0; have q1 := kc_1; have q2 := kc_2; have q3 := kc_3; omega)) (cwV 1 hts (wd_V wd_482 wd_483 wd_484 wd_5 (wd_c wd_485)) rfl rfl rfl dv_yX7_innerLine_1 ⟨Nat.le_of_ble_eq_true rfl, Nat.le_of_ble_eq_true rfl⟩) ⟨Pw.fb, recvX7 hK hP (q0 := 0) rfl, fun U hU hW => Pw.to hP hD hK hE hS hFc hU hW⟩ rfl rfl hl.1 rfl (lv_room (Nat.le_of_ble_eq_true rfl)) dX7_readLine_155 ⟨Nat.le_of_ble_eq_true rfl, Nat.le_of_ble_eq_true rfl⟩) hS (fun q _ h => hFc q h) hFc (fun u t H locs ht hvm hw hB hz1 hk1 hS => ?_)
              refine ex_13_9 hB (fun x_6800 x_6801 x_6802 x_6803 x_6804 x_6805 x_6806 x_6807 x_6808 f_6809 f_6810 f_6811 f_6812 b_x_6801 b_x_6804 b_x_6807 e_x_6800_0 e_x_6800_1 e_x_6800_2 e_x_6800_3 e_x_6800_4 e_x_6800_5 hB => ?_)
              obtain ⟨hP, hD⟩ := Bw.goA (ws' := [(oc7 oM iM_thrown rM_tape iM_taped iM_size x_6800 x_6801 x_6802 x_6803 x_6804 x_6805 x_6806 iM_trouble rM_letters x_6807 iM_hasCourt rM_r rM_fresh rM_told rM_read rM_st rM_undone rM_kept iM_undos iM_images rM_fresher x_6808 iM_scale iM_night rM_heardRow rM_cutRow iM_breaths iM_cutMany iM_allBreaths rM_trial rM_words iM_fewestBreaths iM_orderMany iM_orderSum iM_leastOrder rM_often iM_setMany iM_someOf iM_allOf iM_allWeight iM_enoughWeight iM_worthSum iM_firstRest iM_leastDrawn), (arI rM_tape kM_tape 900 fM_tape), (arI rM_letters kM_letters 8 f_6809), (arI rM_fresh kM_fresh 287 f_6810), (arI rM_read kM_read 90 f_6811), (arI rM_fresher kM_fresher 8 f_6812)]) hB rfl ht hFc rfl
              clear hz1 hk1 hvm ht hB
              have pl_f_6810 := e_x_6800_4.lins
              have hG := hG.trans (un13_eq e_x_6800_5)
              clear e_x_6730_1
              clear e_x_6730_4
              refine lv_goto (tgt := 233) hx hb dX7_readLine_158 (by decide) ?_
              exact wq_v hx hb hr 0 trivial (fun t ht hW => ⟨x_6800, x_6801, x_6802, x_6803, x_6804, x_6805, x_6806, x_6807, x_6808, f_6809, f_6810, f_6811, f_6812, b_x_6801, b_x_6804, b_x_6807, (om_dcd74bf2 e_x_6603_0 e_x_6617_0 e_x_6631_0 e_x_6730_0 e_x_6800_0), e_x_6800_1, (om_dcd74bf2 e_x_6603_2 e_x_6617_2 e_x_6631_2 e_x_6730_2 e_x_6800_2), (fun h9 => (om_cad042f1 e_x_6603_0 e_x_6617_0 e_x_6631_0 e_x_6730_0 (e_x_6800_3 ⟨h9.1, h9.2⟩))), e_x_6800_4, hG, Bw.to hP hD hK ht hW⟩) hS dX7_readLine_233 hlocks
        · skip
          have hG := hG.trans (if_neg c_6641)
          have gc_6641 := ti_ne c_6641 rfl kc_0
          replace gc_6641 : (-1) * x_6640.toInt + 1 ≤ 0 := om_e3003f79 gc_6641 dx_6640.1
          have h_6813 := e_x_6631_3 (by omega)
          clear e_x_6631_3
          refine lv_aload_n hx hb dX7_readLine_108 rfl (lv_at hl 0 rfl) ?_
          refine lv_iconst (v := 2) hx hb dX7_readLine_109 (by decide) ?_
          have hFc := va_freeI hD hS hA
          refine va_callv (va_runV (As := [.int 2]) (rest := []) ⟨hx, hb, hml, hown, hts⟩ (tX7_innerLine l dC dI _ oM iM_thrown rM_tape fM_tape kM_tape iM_taped iM_size x_6631 x_6632 x_6633 x_6634 x_6635 x_6636 x_6637 iM_trouble rM_letters f_6639 kM_letters x_6638 iM_hasCourt rM_r rM_fresh fM_fresh kM_fresh rM_told rM_read fM_read kM_read rM_st rM_undone rM_kept iM_undos iM_images rM_fresher fM_fresher kM_fresher iM_fresherSize iM_scale iM_night rM_heardRow rM_cutRow iM_breaths iM_cutMany iM_allBreaths rM_trial rM_words iM_fewestBreaths iM_orderMany iM_orderSum iM_leastOrder rM_often iM_setMany iM_someOf iM_allOf iM_allWeight iM_enoughWeight iM_worthSum iM_firstRest iM_leastDrawn 2 b_iM_taped b_iM_size b_x_6632 b_x_6635 b_x_6638 b_iM_hasCourt b_iM_undos b_iM_images b_iM_scale b_iM_breaths b_iM_cutMany e_x_6631_1 r_P ⟨(om_1d8fb110 kc_2), (om_b5116cbd kc_2)⟩ (by intro h9; have q0 := kc_0; have q1 := kc_1; have q2 := kc_2; have q3 := kc_3; omega) (fun h9 => False.elim (om_bb111043 h9.2 kc_2))) (cwV 1 hts (wd_V wd_482 wd_483 wd_484 wd_5 (wd_c wd_485)) rfl rfl rfl dv_yX7_innerLine_1 ⟨Nat.le_of_ble_eq_true rfl, Nat.le_of_ble_eq_true rfl⟩) ⟨Pw.fb, recvX7 hK hP (q0 := 0) rfl, fun U hU hW => Pw.to hP hD hK hE hS hFc hU hW⟩ rfl rfl hl.1 rfl (lv_room (Nat.le_of_ble_eq_true rfl)) dX7_readLine_110 ⟨Nat.le_of_ble_eq_true rfl, Nat.le_of_ble_eq_true rfl⟩) hS (fun q _ h => hFc q h) hFc (fun u t H locs ht hvm hw hB hz1 hk1 hS => ?_)
          refine ex_13_9 hB (fun x_6814 x_6815 x_6816 x_6817 x_6818 x_6819 x_6820 x_6821 x_6822 f_6823 f_6824 f_6825 f_6826 b_x_6815 b_x_6818 b_x_6821 e_x_6814_0 e_x_6814_1 e_x_6814_2 e_x_6814_3 e_x_6814_4 e_x_6814_5 hB => ?_)
          obtain ⟨hP, hD⟩ := Bw.goA (ws' := [(oc7 oM iM_thrown rM_tape iM_taped iM_size x_6814 x_6815 x_6816 x_6817 x_6818 x_6819 x_6820 iM_trouble rM_letters x_6821 iM_hasCourt rM_r rM_fresh rM_told rM_read rM_st rM_undone rM_kept iM_undos iM_images rM_fresher x_6822 iM_scale iM_night rM_heardRow rM_cutRow iM_breaths iM_cutMany iM_allBreaths rM_trial rM_words iM_fewestBreaths iM_orderMany iM_orderSum iM_leastOrder rM_often iM_setMany iM_someOf iM_allOf iM_allWeight iM_enoughWeight iM_worthSum iM_firstRest iM_leastDrawn), (arI rM_tape kM_tape 900 fM_tape), (arI rM_letters kM_letters 8 f_6823), (arI rM_fresh kM_fresh 287 f_6824), (arI rM_read kM_read 90 f_6825), (arI rM_fresher kM_fresher 8 f_6826)]) hB rfl ht hFc rfl
          clear hz1 hk1 hvm ht hB
          have pl_f_6824 := e_x_6814_4.lins
          have hG := hG.trans (un13_eq e_x_6814_5)
          clear e_x_6631_1
          clear e_x_6631_4
          refine lv_goto (tgt := 233) hx hb dX7_readLine_113 (by decide) ?_
          exact wq_v hx hb hr 0 trivial (fun t ht hW => ⟨x_6814, x_6815, x_6816, x_6817, x_6818, x_6819, x_6820, x_6821, x_6822, f_6823, f_6824, f_6825, f_6826, b_x_6815, b_x_6818, b_x_6821, (om_dc41b317 e_x_6603_0 e_x_6617_0 e_x_6631_0 e_x_6814_0), e_x_6814_1, (om_dc41b317 e_x_6603_2 e_x_6617_2 e_x_6631_2 e_x_6814_2), (fun h9 => (om_67b34c44 e_x_6603_0 e_x_6617_0 e_x_6631_0 (e_x_6814_3 ⟨h9.1, h9.2⟩))), e_x_6814_4, hG, Bw.to hP hD hK ht hW⟩) hS dX7_readLine_233 hlocks
      · skip
        have hG := hG.trans (if_neg c_6627)
        have gc_6627 := ti_ne c_6627 rfl kc_0
        replace gc_6627 : (-1) * x_6626.toInt + 1 ≤ 0 := om_e3003f79 gc_6627 dx_6626.1
        have h_6827 := e_x_6617_3 (by omega)
        clear e_x_6617_3
        refine lv_aload_n hx hb dX7_readLine_74 rfl (lv_at hl 0 rfl) ?_
        refine lv_iconst (v := 1) hx hb dX7_readLine_75 (by decide) ?_
        have hFc := va_freeI hD hS hA
        refine va_callv (va_runV (As := [.int 1]) (rest := []) ⟨hx, hb, hml, hown, hts⟩ (tX7_innerLine l dC dI _ oM iM_thrown rM_tape fM_tape kM_tape iM_taped iM_size x_6617 x_6618 x_6619 x_6620 x_6621 x_6622 x_6623 iM_trouble rM_letters f_6625 kM_letters x_6624 iM_hasCourt rM_r rM_fresh fM_fresh kM_fresh rM_told rM_read fM_read kM_read rM_st rM_undone rM_kept iM_undos iM_images rM_fresher fM_fresher kM_fresher iM_fresherSize iM_scale iM_night rM_heardRow rM_cutRow iM_breaths iM_cutMany iM_allBreaths rM_trial rM_words iM_fewestBreaths iM_orderMany iM_orderSum iM_leastOrder rM_often iM_setMany iM_someOf iM_allOf iM_allWeight iM_enoughWeight iM_worthSum iM_firstRest iM_leastDrawn 1 b_iM_taped b_iM_size b_x_6618 b_x_6621 b_x_6624 b_iM_hasCourt b_iM_undos b_iM_images b_iM_scale b_iM_breaths b_iM_cutMany e_x_6617_1 r_P ⟨(om_c083232f kc_1), (om_a83fc49f kc_1)⟩ (by intro h9; have q0 := kc_0; have q1 := kc_1; have q2 := kc_2; have q3 := kc_3; omega) (fun h9 => False.elim (om_9636131c h9.2 kc_1))) (cwV 1 hts (wd_V wd_482 wd_483 wd_484 wd_5 (wd_c wd_485)) rfl rfl rfl dv_yX7_innerLine_1 ⟨Nat.le_of_ble_eq_true rfl, Nat.le_of_ble_eq_true rfl⟩) ⟨Pw.fb, recvX7 hK hP (q0 := 0) rfl, fun U hU hW => Pw.to hP hD hK hE hS hFc hU hW⟩ rfl rfl hl.1 rfl (lv_room (Nat.le_of_ble_eq_true rfl)) dX7_readLine_76 ⟨Nat.le_of_ble_eq_true rfl, Nat.le_of_ble_eq_true rfl⟩) hS (fun q _ h => hFc q h) hFc (fun u t H locs ht hvm hw hB hz1 hk1 hS => ?_)
        refine ex_13_9 hB (fun x_6828 x_6829 x_6830 x_6831 x_6832 x_6833 x_6834 x_6835 x_6836 f_6837 f_6838 f_6839 f_6840 b_x_6829 b_x_6832 b_x_6835 e_x_6828_0 e_x_6828_1 e_x_6828_2 e_x_6828_3 e_x_6828_4 e_x_6828_5 hB => ?_)
        obtain ⟨hP, hD⟩ := Bw.goA (ws' := [(oc7 oM iM_thrown rM_tape iM_taped iM_size x_6828 x_6829 x_6830 x_6831 x_6832 x_6833 x_6834 iM_trouble rM_letters x_6835 iM_hasCourt rM_r rM_fresh rM_told rM_read rM_st rM_undone rM_kept iM_undos iM_images rM_fresher x_6836 iM_scale iM_night rM_heardRow rM_cutRow iM_breaths iM_cutMany iM_allBreaths rM_trial rM_words iM_fewestBreaths iM_orderMany iM_orderSum iM_leastOrder rM_often iM_setMany iM_someOf iM_allOf iM_allWeight iM_enoughWeight iM_worthSum iM_firstRest iM_leastDrawn), (arI rM_tape kM_tape 900 fM_tape), (arI rM_letters kM_letters 8 f_6837), (arI rM_fresh kM_fresh 287 f_6838), (arI rM_read kM_read 90 f_6839), (arI rM_fresher kM_fresher 8 f_6840)]) hB rfl ht hFc rfl
        clear hz1 hk1 hvm ht hB
        have pl_f_6838 := e_x_6828_4.lins
        have hG := hG.trans (un13_eq e_x_6828_5)
        clear e_x_6617_1
        clear e_x_6617_4
        refine lv_goto (tgt := 233) hx hb dX7_readLine_79 (by decide) ?_
        exact wq_v hx hb hr 0 trivial (fun t ht hW => ⟨x_6828, x_6829, x_6830, x_6831, x_6832, x_6833, x_6834, x_6835, x_6836, f_6837, f_6838, f_6839, f_6840, b_x_6829, b_x_6832, b_x_6835, (om_622f2a87 e_x_6603_0 e_x_6617_0 e_x_6828_0), e_x_6828_1, (om_622f2a87 e_x_6603_2 e_x_6617_2 e_x_6828_2), (fun h9 => (om_2d38588c e_x_6603_0 e_x_6617_0 (e_x_6828_3 ⟨h9.1, h9.2⟩))), e_x_6828_4, hG, Bw.to hP hD hK ht hW⟩) hS dX7_readLine_233 hlocks
    · skip
      have hG := hG.trans (if_neg c_6613)
      have gc_6613 := ti_ne c_6613 rfl kc_0
      replace gc_6613 : (-1) * x_6612.toInt + 1 ≤ 0 := om_e3003f79 gc_6613 dx_6612.1
      have h_6841 := e_x_6603_3 (by omega)
      clear e_x_6603_3
      refine lv_aload_n hx hb dX7_readLine_41 rfl (lv_at hl 0 rfl) ?_
      have hFc := va_freeI hD hS hA
      refine va_callv (va_runV (As := []) (rest := []) ⟨hx, hb, hml, hown, hts⟩ (tX7_wordLine l dC dI _ oM iM_thrown rM_tape fM_tape kM_tape iM_taped iM_size x_6603 x_6604 x_6605 x_6606 x_6607 x_6608 x_6609 iM_trouble rM_letters f_6611 kM_letters x_6610 iM_hasCourt rM_r rM_fresh fM_fresh kM_fresh rM_told rM_read fM_read kM_read rM_st rM_undone rM_kept iM_undos iM_images rM_fresher fM_fresher kM_fresher iM_fresherSize iM_scale iM_night rM_heardRow rM_cutRow iM_breaths iM_cutMany iM_allBreaths rM_trial rM_words iM_fewestBreaths iM_orderMany iM_orderSum iM_leastOrder rM_often iM_setMany iM_someOf iM_allOf iM_allWeight iM_enoughWeight iM_worthSum iM_firstRest iM_leastDrawn b_iM_taped b_iM_size b_x_6604 b_x_6607 b_x_6610 b_iM_hasCourt b_iM_undos b_iM_images b_iM_scale b_iM_breaths b_iM_cutMany e_x_6603_1 r_P (by intro h9; have q0 := kc_0; have q1 := kc_1; have q2 := kc_2; have q3 := kc_3; omega)) (cwV 0 hts (wd_V wd_458 wd_459 wd_460 wd_5 (wd_c wd_461)) rfl rfl rfl dv_yX7_wordLine_0 ⟨Nat.le_of_ble_eq_true rfl, Nat.le_of_ble_eq_true rfl⟩) ⟨Pw.fb, recvX7 hK hP (q0 := 0) rfl, fun U hU hW => Pw.to hP hD hK hE hS hFc hU hW⟩ rfl rfl hl.1 rfl (lv_room (Nat.le_of_ble_eq_true rfl)) dX7_readLine_42 ⟨Nat.le_of_ble_eq_true rfl, Nat.le_of_ble_eq_true rfl⟩) hS (fun q _ h => hFc q h) hFc (fun u t H locs ht hvm hw hB hz1 hk1 hS => ?_)
      refine ex_13_9 hB (fun x_6842 x_6843 x_6844 x_6845 x_6846 x_6847 x_6848 x_6849 x_6850 f_6851 f_6852 f_6853 f_6854 b_x_6843 b_x_6846 b_x_6849 e_x_6842_0 e_x_6842_1 e_x_6842_2 e_x_6842_3 e_x_6842_4 e_x_6842_5 hB => ?_)
      obtain ⟨hP, hD⟩ := Bw.goA (ws' := [(oc7 oM iM_thrown rM_tape iM_taped iM_size x_6842 x_6843 x_6844 x_6845 x_6846 x_6847 x_6848 iM_trouble rM_letters x_6849 iM_hasCourt rM_r rM_fresh rM_told rM_read rM_st rM_undone rM_kept iM_undos iM_images rM_fresher x_6850 iM_scale iM_night rM_heardRow rM_cutRow iM_breaths iM_cutMany iM_allBreaths rM_trial rM_words iM_fewestBreaths iM_orderMany iM_orderSum iM_leastOrder rM_often iM_setMany iM_someOf iM_allOf iM_allWeight iM_enoughWeight iM_worthSum iM_firstRest iM_leastDrawn), (arI rM_tape kM_tape 900 fM_tape), (arI rM_letters kM_letters 8 f_6851), (arI rM_fresh kM_fresh 287 f_6852), (arI rM_read kM_read 90 f_6853), (arI rM_fresher kM_fresher 8 f_6854)]) hB rfl ht hFc rfl
      clear hz1 hk1 hvm ht hB
      have pl_f_6852 := e_x_6842_4.lins
      have hG := hG.trans (un13_eq e_x_6842_5)
      clear e_x_6603_1
      clear e_x_6603_4
      refine lv_goto (tgt := 233) hx hb dX7_readLine_45 (by decide) ?_
      exact wq_v hx hb hr 0 trivial (fun t ht hW => ⟨x_6842, x_6843, x_6844, x_6845, x_6846, x_6847, x_6848, x_6849, x_6850, f_6851, f_6852, f_6853, f_6854, b_x_6843, b_x_6846, b_x_6849, (om_9348f5ae e_x_6603_0 e_x_6842_0), e_x_6842_1, (om_9348f5ae e_x_6603_2 e_x_6842_2), (fun h9 => (om_7ed234da e_x_6603_0 (e_x_6842_3 ⟨h9.1, h9.2⟩))), e_x_6842_4, hG, Bw.to hP hD hK ht hW⟩) hS dX7_readLine_233 hlocks
  · skip
    have hG := hG.trans (if_neg c_6599)
    have gc_6599 := ti_ne c_6599 rfl kc_0
    replace gc_6599 : (-1) * x_6598.toInt + 1 ≤ 0 := om_e3003f79 gc_6599 dx_6598.1
    have h_6855 : iM_token.toInt = 2 := lx_6598 (om_7907a7c1 dx_6598.2 gc_6599)
    clear lx_6598
    have h_6856 : iM_nameSize.toInt ≤ 8 := r_T h_6855
    clear r_T
    refine lv_aload_n hx hb dX7_readLine_9 rfl (lv_at hl 0 rfl) ?_
    have hMs := ml_of hD [true, true, true, true, true, false] (wc := [(oc7 oM iM_thrown rM_tape iM_taped iM_size iM_at iM_end iM_token iM_whole iM_nameSize iM_fault iM_place iM_trouble rM_letters iM_failed iM_hasCourt rM_r rM_fresh rM_told rM_read rM_st rM_undone rM_kept iM_undos iM_images rM_fresher iM_fresherSize iM_scale iM_night rM_heardRow rM_cutRow iM_breaths iM_cutMany iM_allBreaths rM_trial rM_words iM_fewestBreaths iM_orderMany iM_orderSum iM_leastOrder rM_often iM_setMany iM_someOf iM_allOf iM_allWeight iM_enoughWeight iM_worthSum iM_firstRest iM_leastDrawn), (arI rM_tape kM_tape 900 fM_tape), (arI rM_letters kM_letters 8 fM_letters), (arI rM_fresh kM_fresh 287 fM_fresh), (arI rM_read kM_read 90 fM_read)]) rfl
    have hFc := va_freeM hD hS hA _ hMs
    refine va_callv (va_runV (As := []) (rest := []) ⟨hx, hb, hml, hown, hts⟩ (tX7_courtLine l dC dI _ oM iM_thrown rM_tape fM_tape kM_tape iM_taped iM_size iM_at iM_end iM_token iM_whole iM_nameSize iM_fault iM_place iM_trouble rM_letters fM_letters kM_letters iM_failed iM_hasCourt rM_r rM_fresh fM_fresh kM_fresh rM_told rM_read fM_read kM_read rM_st rM_undone rM_kept iM_undos iM_images rM_fresher iM_fresherSize iM_scale iM_night rM_heardRow rM_cutRow iM_breaths iM_cutMany iM_allBreaths rM_trial rM_words iM_fewestBreaths iM_orderMany iM_orderSum iM_leastOrder rM_often iM_setMany iM_someOf iM_allOf iM_allWeight iM_enoughWeight iM_worthSum iM_firstRest iM_leastDrawn b_iM_taped b_iM_size b_iM_end b_iM_nameSize b_iM_failed b_iM_hasCourt b_iM_undos b_iM_images b_iM_scale b_iM_breaths b_iM_cutMany (fun h9 => h_6856) r_P) (cwV 0 hts (wd_V wd_426 wd_427 wd_428 wd_5 (wd_c wd_429)) rfl rfl rfl dv_yX7_courtLine_0 ⟨Nat.le_of_ble_eq_true rfl, Nat.le_of_ble_eq_true rfl⟩) ⟨Pw.fb, recvX7 hK hP (q0 := 0) rfl, fun U hU hW => Pw.to (hP.ms _ hMs) (hD.ms _ hMs) (hK.ms [true, true, true, true, false] rfl) hE hS hFc hU hW⟩ rfl rfl hl.1 rfl (lv_room (Nat.le_of_ble_eq_true rfl)) dX7_readLine_10 ⟨Nat.le_of_ble_eq_true rfl, Nat.le_of_ble_eq_true rfl⟩) hS (fun q _ h => hFc q h) hFc (fun u t H locs ht hvm hw hB hz1 hk1 hS => ?_)
    refine ex_10_9 hB (fun x_6857 x_6858 x_6859 x_6860 x_6861 x_6862 x_6863 x_6864 f_6865 f_6866 b_x_6858 b_x_6861 b_x_6864 e_x_6857_0 e_x_6857_1 e_x_6857_2 e_x_6857_3 e_x_6857_4 e_x_6857_5 hB => ?_)
    obtain ⟨hP, hD⟩ := Bw.goN (ws' := [(oc7 oM iM_thrown rM_tape iM_taped iM_size x_6857 x_6858 x_6859 x_6860 x_6861 x_6862 x_6863 iM_trouble rM_letters x_6864 iM_hasCourt rM_r rM_fresh rM_told rM_read rM_st rM_undone rM_kept iM_undos iM_images rM_fresher iM_fresherSize iM_scale iM_night rM_heardRow rM_cutRow iM_breaths iM_cutMany iM_allBreaths rM_trial rM_words iM_fewestBreaths iM_orderMany iM_orderSum iM_leastOrder rM_often iM_setMany iM_someOf iM_allOf iM_allWeight iM_enoughWeight iM_worthSum iM_firstRest iM_leastDrawn), (arI rM_tape kM_tape 900 fM_tape), (arI rM_letters kM_letters 8 f_6865), (arI rM_fresh kM_fresh 287 f_6866), (arI rM_read kM_read 90 fM_read), (arI rM_fresher kM_fresher 8 fM_fresher)]) hB rfl ht hP hD _ hMs hk1 hFc rfl
    clear hz1 hk1 hvm ht hB hMs
    have pl_f_6866 := e_x_6857_4.lins
    have hG := hG.trans (un10_eq e_x_6857_5)
    refine lv_goto (tgt := 233) hx hb dX7_readLine_13 (by decide) ?_
    exact wq_v hx hb hr 0 trivial (fun t ht hW => ⟨x_6857, x_6858, x_6859, x_6860, x_6861, x_6862, x_6863, x_6864, iM_fresherSize, f_6865, f_6866, fM_read, fM_fresher, b_x_6858, b_x_6861, b_x_6864, e_x_6857_0, e_x_6857_1, e_x_6857_2, e_x_6857_3, e_x_6857_4, hG, Bw.to hP hD hK ht hW⟩) hS dX7_readLine_233 hlocks
