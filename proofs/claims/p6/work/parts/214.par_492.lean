set_option maxHeartbeats 4000000 in
set_option maxRecDepth 100000 in
theorem tX7_readLine (l : Launch) (dC : Nat → ClassId) (dI : Nat → Nat → Nat) (sz : Nat) (oM : Nat) (iM_thrown : Int32) (rM_tape : Nat) (fM_tape : Nat → Int32) (kM_tape : ClassId) (iM_taped : Int32) (iM_size : Int32) (iM_at : Int32) (iM_end : Int32) (iM_token : Int32) (iM_whole : Int32) (iM_nameSize : Int32) (iM_fault : Int32) (iM_place : Int32) (iM_trouble : Int32) (rM_letters : Nat) (fM_letters : Nat → Int32) (kM_letters : ClassId) (iM_failed : Int32) (iM_hasCourt : Int32) (rM_r : Nat) (rM_fresh : Nat) (fM_fresh : Nat → Int32) (kM_fresh : ClassId) (rM_told : Nat) (rM_read : Nat) (fM_read : Nat → Int32) (kM_read : ClassId) (rM_st : Nat) (rM_undone : Nat) (rM_kept : Nat) (iM_undos : Int32) (iM_images : Int32) (rM_fresher : Nat) (fM_fresher : Nat → Int32) (kM_fresher : ClassId) (iM_fresherSize : Int32) (iM_scale : Int32) (iM_night : Int32) (rM_heardRow : Nat) (rM_cutRow : Nat) (iM_breaths : Int32) (iM_cutMany : Int32) (iM_allBreaths : Int32) (rM_trial : Nat) (rM_words : Nat) (iM_fewestBreaths : Int32) (iM_orderMany : Int32) (iM_orderSum : Int32) (iM_leastOrder : Int32) (rM_often : Nat) (iM_setMany : Int32) (iM_someOf : Int32) (iM_allOf : Int32) (iM_allWeight : Int64) (iM_enoughWeight : Int64) (iM_worthSum : Int64) (iM_firstRest : Int32) (iM_leastDrawn : Int32) (b_iM_taped : 0 ≤ iM_taped.toInt ∧ iM_taped.toInt ≤ 900) (b_iM_size : 0 ≤ iM_size.toInt ∧ iM_size.toInt ≤ 900) (b_iM_end : 0 ≤ iM_end.toInt ∧ iM_end.toInt ≤ 900) (b_iM_nameSize : 0 ≤ iM_nameSize.toInt ∧ iM_nameSize.toInt ≤ 900) (b_iM_failed : 0 ≤ iM_failed.toInt ∧ iM_failed.toInt ≤ 1) (b_iM_hasCourt : 0 ≤ iM_hasCourt.toInt ∧ iM_hasCourt.toInt ≤ 1) (b_iM_undos : 0 ≤ iM_undos.toInt ∧ iM_undos.toInt ≤ 16) (b_iM_images : 0 ≤ iM_images.toInt ∧ iM_images.toInt ≤ 3) (b_iM_scale : 1 ≤ iM_scale.toInt ∧ iM_scale.toInt ≤ 1296) (b_iM_breaths : 0 ≤ iM_breaths.toInt ∧ iM_breaths.toInt ≤ 399) (b_iM_cutMany : 0 ≤ iM_cutMany.toInt ∧ iM_cutMany.toInt ≤ 399) (r_T : ImpP (iM_token.toInt = 2) (iM_nameSize.toInt ≤ 8)) (r_P : POk fM_fresh fM_read)  : Met l yX7_readLine (Cond.code yX7_readLine cX7_readLine 1 none :: wG) ({ frames := 9, cells := 0, slots := 0, locals := 220 }) (va_Pc [.ref oM] (Pw dC dI sz [(oc7 oM iM_thrown rM_tape iM_taped iM_size iM_at iM_end iM_token iM_whole iM_nameSize iM_fault iM_place iM_trouble rM_letters iM_failed iM_hasCourt rM_r rM_fresh rM_told rM_read rM_st rM_undone rM_kept iM_undos iM_images rM_fresher iM_fresherSize iM_scale iM_night rM_heardRow rM_cutRow iM_breaths iM_cutMany iM_allBreaths rM_trial rM_words iM_fewestBreaths iM_orderMany iM_orderSum iM_leastOrder rM_often iM_setMany iM_someOf iM_allOf iM_allWeight iM_enoughWeight iM_worthSum iM_firstRest iM_leastDrawn), (arI rM_tape kM_tape 900 fM_tape), (arI rM_letters kM_letters 8 fM_letters), (arI rM_fresh kM_fresh 287 fM_fresh), (arI rM_read kM_read 90 fM_read), (arI rM_fresher kM_fresher 8 fM_fresher)] [(kM_tape, .int), (kM_letters, .int), (kM_fresh, .int), (kM_read, .int), (kM_fresher, .int)])) (va_Qv (fun (_ : Nat) => True) (fun (_ : Nat) (t : State) => ∃ (niM_at : Int32) (niM_end : Int32) (niM_token : Int32) (niM_whole : Int32) (niM_nameSize : Int32) (niM_fault : Int32) (niM_place : Int32) (niM_failed : Int32) (niM_fresherSize : Int32) (nfM_letters : Nat → Int32) (nfM_fresh : Nat → Int32) (nfM_read : Nat → Int32) (nfM_fresher : Nat → Int32), (0 ≤ niM_end.toInt ∧ niM_end.toInt ≤ 900) ∧ (0 ≤ niM_nameSize.toInt ∧ niM_nameSize.toInt ≤ 900) ∧ (0 ≤ niM_failed.toInt ∧ niM_failed.toInt ≤ 1) ∧ (iM_end.toInt ≤ niM_end.toInt) ∧ (ImpP (niM_token.toInt = 2) (niM_nameSize.toInt ≤ 8)) ∧ (iM_failed.toInt ≤ niM_failed.toInt) ∧ (ImpP (niM_failed.toInt ≤ 0 ∧ niM_token.toInt = 59 ) (iM_end.toInt + 1 ≤ niM_end.toInt)) ∧ (POk nfM_fresh nfM_read) ∧ (PX7_readLine fM_tape iM_size iM_at iM_end iM_token iM_whole iM_nameSize iM_fault iM_place fM_letters iM_failed fM_fresh fM_read fM_fresher iM_fresherSize = (niM_at, niM_end, niM_token, niM_whole, niM_nameSize, niM_fault, niM_place, niM_failed, niM_fresherSize, nfM_letters, nfM_fresh, nfM_read, nfM_fresher)) ∧ Bw dC dI (va_A [(oc7 oM iM_thrown rM_tape iM_taped iM_size iM_at iM_end iM_token iM_whole iM_nameSize iM_fault iM_place iM_trouble rM_letters iM_failed iM_hasCourt rM_r rM_fresh rM_told rM_read rM_st rM_undone rM_kept iM_undos iM_images rM_fresher iM_fresherSize iM_scale iM_night rM_heardRow rM_cutRow iM_breaths iM_cutMany iM_allBreaths rM_trial rM_words iM_fewestBreaths iM_orderMany iM_orderSum iM_leastOrder rM_often iM_setMany iM_someOf iM_allOf iM_allWeight iM_enoughWeight iM_worthSum iM_firstRest iM_leastDrawn), (arI rM_tape kM_tape 900 fM_tape), (arI rM_letters kM_letters 8 fM_letters), (arI rM_fresh kM_fresh 287 fM_fresh), (arI rM_read kM_read 90 fM_read), (arI rM_fresher kM_fresher 8 fM_fresher)] sz) [(oc7 oM iM_thrown rM_tape iM_taped iM_size niM_at niM_end niM_token niM_whole niM_nameSize niM_fault niM_place iM_trouble rM_letters niM_failed iM_hasCourt rM_r rM_fresh rM_told rM_read rM_st rM_undone rM_kept iM_undos iM_images rM_fresher niM_fresherSize iM_scale iM_night rM_heardRow rM_cutRow iM_breaths iM_cutMany iM_allBreaths rM_trial rM_words iM_fewestBreaths iM_orderMany iM_orderSum iM_leastOrder rM_often iM_setMany iM_someOf iM_allOf iM_allWeight iM_enoughWeight iM_worthSum iM_firstRest iM_leastDrawn), (arI rM_tape kM_tape 900 fM_tape), (arI rM_letters kM_letters 8 nfM_letters), (arI rM_fresh kM_fresh 287 nfM_fresh), (arI rM_read kM_read 90 nfM_read), (arI rM_fresher kM_fresher 8 nfM_fresher)] [(kM_tape, .int), (kM_letters, .int), (kM_fresh, .int), (kM_read, .int), (kM_fresher, .int)] t) (va_A [(oc7 oM iM_thrown rM_tape iM_taped iM_size iM_at iM_end iM_token iM_whole iM_nameSize iM_fault iM_place iM_trouble rM_letters iM_failed iM_hasCourt rM_r rM_fresh rM_told rM_read rM_st rM_undone rM_kept iM_undos iM_images rM_fresher iM_fresherSize iM_scale iM_night rM_heardRow rM_cutRow iM_breaths iM_cutMany iM_allBreaths rM_trial rM_words iM_fewestBreaths iM_orderMany iM_orderSum iM_leastOrder rM_often iM_setMany iM_someOf iM_allOf iM_allWeight iM_enoughWeight iM_worthSum iM_firstRest iM_leastDrawn), (arI rM_tape kM_tape 900 fM_tape), (arI rM_letters kM_letters 8 fM_letters), (arI rM_fresh kM_fresh 287 fM_fresh), (arI rM_read kM_read 90 fM_read), (arI rM_fresher kM_fresher 8 fM_fresher)] sz)) 0 0 (va_A [(oc7 oM iM_thrown rM_tape iM_taped iM_size iM_at iM_end iM_token iM_whole iM_nameSize iM_fault iM_place iM_trouble rM_letters iM_failed iM_hasCourt rM_r rM_fresh rM_told rM_read rM_st rM_undone rM_kept iM_undos iM_images rM_fresher iM_fresherSize iM_scale iM_night rM_heardRow rM_cutRow iM_breaths iM_cutMany iM_allBreaths rM_trial rM_words iM_fewestBreaths iM_orderMany iM_orderSum iM_leastOrder rM_often iM_setMany iM_someOf iM_allOf iM_allWeight iM_enoughWeight iM_worthSum iM_firstRest iM_leastDrawn), (arI rM_tape kM_tape 900 fM_tape), (arI rM_letters kM_letters 8 fM_letters), (arI rM_fresh kM_fresh 287 fM_fresh), (arI rM_read kM_read 90 fM_read), (arI rM_fresher kM_fresher 8 fM_fresher)] sz) := by
  refine Met.ofW (cc := cX7_readLine) (maxL := 1) (ret := none) pnX7 rfl ?_
  intro p e s m args below meth c s₁ B hml hv
  obtain ⟨rfl, hsz, hP, hK, hD0, hE⟩ := hv
  have hx := B.exec
  have hb := B.bytes
  have hr := B.returns
  have hts : ∀ w ∈ wG, w.before ([.ref oM] : List Value).toArray s = true := fun w h => atoms_spec (ws := Cond.code yX7_readLine cX7_readLine 1 none :: wG) B.pre w (List.mem_cons_of_mem _ h)
  have hown : s.vm.findClass RX7 = some m.cls := own_of B.named rfl
  have hlocks := B.notSynchronized
  subst hsz
  have hD := hD0.self (sz := s.heap.size)
  generalize hAe : va_A [(oc7 oM iM_thrown rM_tape iM_taped iM_size iM_at iM_end iM_token iM_whole iM_nameSize iM_fault iM_place iM_trouble rM_letters iM_failed iM_hasCourt rM_r rM_fresh rM_told rM_read rM_st rM_undone rM_kept iM_undos iM_images rM_fresher iM_fresherSize iM_scale iM_night rM_heardRow rM_cutRow iM_breaths iM_cutMany iM_allBreaths rM_trial rM_words iM_fewestBreaths iM_orderMany iM_orderSum iM_leastOrder rM_often iM_setMany iM_someOf iM_allOf iM_allWeight iM_enoughWeight iM_worthSum iM_firstRest iM_leastDrawn), (arI rM_tape kM_tape 900 fM_tape), (arI rM_letters kM_letters 8 fM_letters), (arI rM_fresh kM_fresh 287 fM_fresh), (arI rM_read kM_read 90 fM_read), (arI rM_fresher kM_fresher 8 fM_fresher)] s.heap.size = A at hD hE ⊢
  have hA : ∀ q : Nat, s.heap.size ≤ q → A q := fun q h => by rw [← hAe]; exact Or.inr h
  have hS : va_S A s.heap s.heap [] := va_S.rf
  have hl := lv_entry ([.ref oM]) (n := 1) (Nat.le_of_ble_eq_true rfl)
  rw [lg_entry_eq]
  generalize (lg_sl ([.ref oM]) ++ List.replicate (1 - (lg_sl ([.ref oM])).length) Slot.unset).toArray = ls at hl ⊢
  have hl : lv_has ls 1 [(0, .ref oM)] := hl
  have hG := PX7_readLine_eq fM_tape iM_size iM_at iM_end iM_token iM_whole iM_nameSize iM_fault iM_place fM_letters iM_failed fM_fresh fM_read fM_fresher iM_fresherSize
  have pl_fM_fresh := r_P.lins
  refine lv_aload_n hx hb dX7_readLine_0 rfl (lv_at hl 0 rfl) ?_
  obtain ⟨sa_6596, vsa_6596, nsa_6596, fsa_6596, hnsa_6596, hnesa_6596, hfesa_6596, hRsa_6596, hSsa_6596⟩ := hE.2.2.1 (134, "court", [99, 111, 117, 114, 116]) (by decide)
  have hG := hG.trans (lt_eq hnesa_6596)
  have hG := hG.trans (lt_eq hfesa_6596)
  refine va_ldcS hx hb hown hRsa_6596 dX7_readLine_1 ?_
  have hMs := ml_of hD [true, false, true, false, false, false] (wc := [(oc7 oM iM_thrown rM_tape iM_taped iM_size iM_at iM_end iM_token iM_whole iM_nameSize iM_fault iM_place iM_trouble rM_letters iM_failed iM_hasCourt rM_r rM_fresh rM_told rM_read rM_st rM_undone rM_kept iM_undos iM_images rM_fresher iM_fresherSize iM_scale iM_night rM_heardRow rM_cutRow iM_breaths iM_cutMany iM_allBreaths rM_trial rM_words iM_fewestBreaths iM_orderMany iM_orderSum iM_leastOrder rM_often iM_setMany iM_someOf iM_allOf iM_allWeight iM_enoughWeight iM_worthSum iM_firstRest iM_leastDrawn), (arI rM_letters kM_letters 8 fM_letters)]) rfl
  have hFc := va_freeM hD hS hA _ hMs
  refine va_calli (va_runV (As := [.ref sa_6596]) (rest := []) ⟨hx, hb, hml, hown, hts⟩ (tX7_isWord l dC dI _ oM iM_thrown rM_tape iM_taped iM_size iM_at iM_end iM_token iM_whole iM_nameSize iM_fault iM_place iM_trouble rM_letters fM_letters kM_letters iM_failed iM_hasCourt rM_r rM_fresh rM_told rM_read rM_st rM_undone rM_kept iM_undos iM_images rM_fresher iM_fresherSize iM_scale iM_night rM_heardRow rM_cutRow iM_breaths iM_cutMany iM_allBreaths rM_trial rM_words iM_fewestBreaths iM_orderMany iM_orderSum iM_leastOrder rM_often iM_setMany iM_someOf iM_allOf iM_allWeight iM_enoughWeight iM_worthSum iM_firstRest iM_leastDrawn sa_6596 vsa_6596 nsa_6596 fsa_6596 b_iM_taped b_iM_size b_iM_end b_iM_nameSize b_iM_failed b_iM_hasCourt b_iM_undos b_iM_images b_iM_scale b_iM_breaths b_iM_cutMany (by first | assumption | exact (fun h9 => by have q0 := kc_0; have q1 := kc_1; omega)) (by first | assumption | (have q0 := kc_0; have q1 := kc_1; first | exact ⟨by omega, by omega⟩ | omega) | decide | (intro h; exact absurd h (by decide)))) (cwV 1 hts (wd_V wd_420 wd_421 wd_422 wd_5 (wd_c wd_423)) rfl rfl rfl dv_yX7_isWord_1 ⟨Nat.le_of_ble_eq_true rfl, Nat.le_of_ble_eq_true rfl⟩) ⟨Pq.fb, recvX7 hK hP (q0 := 0) rfl, fun U hU hW => Pq.to (hP.ms _ hMs) (hD.ms _ hMs) (hK.ms [false, true, false, false, false] rfl) hSsa_6596 hE hS hFc hU hW⟩ rfl rfl hl.1 rfl (lv_room (Nat.le_of_ble_eq_true rfl)) dX7_readLine_3 ⟨Nat.le_of_ble_eq_true rfl, Nat.le_of_ble_eq_true rfl⟩) hS (fun q _ h => hFc q h) hFc (fun r u t H locs ht hvm hw hB hz1 hk1 hS => ?_)
  have hru9 := hw.2
  have hw := hw.1
  obtain ⟨hP, hD⟩ := Bw.goN (ws' := [(oc7 oM iM_thrown rM_tape iM_taped iM_size iM_at iM_end iM_token iM_whole iM_nameSize iM_fault iM_place iM_trouble rM_letters iM_failed iM_hasCourt rM_r rM_fresh rM_told rM_read rM_st rM_undone rM_kept iM_undos iM_images rM_fresher iM_fresherSize iM_scale iM_night rM_heardRow rM_cutRow iM_breaths iM_cutMany iM_allBreaths rM_trial rM_words iM_fewestBreaths iM_orderMany iM_orderSum iM_leastOrder rM_often iM_setMany iM_someOf iM_allOf iM_allWeight iM_enoughWeight iM_worthSum iM_firstRest iM_leastDrawn), (arI rM_tape kM_tape 900 fM_tape), (arI rM_letters kM_letters 8 fM_letters), (arI rM_fresh kM_fresh 287 fM_fresh), (arI rM_read kM_read 90 fM_read), (arI rM_fresher kM_fresher 8 fM_fresher)]) hB rfl ht hP hD _ hMs hk1 hFc rfl
  clear hz1 hk1 hvm ht hB hMs
  obtain ⟨x_6597, rfl⟩ : ∃ z, z = r := ⟨_, rfl⟩
  have hG := hG.trans (lt_eq hru9.symm)
  have bx_6597 := hw.1
  have dx_6597 := bz_ti bx_6597
  have lx_6597 := hw.2
  refine lv_if_eq (tgt := 16) hx hb dX7_readLine_6 (by decide) (fun c_6598 => ?_) (fun c_6598 => ?_)
  · skip
    have hG := hG.trans (if_pos c_6598)
    have gc_6598 := ti_eq c_6598 rfl kc_0
    clear lx_6597
    refine lv_aload_n hx hb dX7_readLine_16 rfl (lv_at hl 0 rfl) ?_
    obtain ⟨sa_6599, vsa_6599, nsa_6599, fsa_6599, hnsa_6599, hnesa_6599, hfesa_6599, hRsa_6599, hSsa_6599⟩ := hE.2.2.1 (136, "word", [119, 111, 114, 100]) (by decide)
    have hG := hG.trans (lt_eq hnesa_6599)
    have hG := hG.trans (lt_eq hfesa_6599)
    refine va_ldcS hx hb hown hRsa_6599 dX7_readLine_17 ?_
    refine lv_aload_n hx hb dX7_readLine_19 rfl (lv_at hl 0 rfl) ?_
    refine va_get (D := (dC, dI)) (ci := 7) (v := .ref rM_fresh) (C := RX7) (T := TX7) (N := 48) hx hb hts inX7 hown hK hP 0 rfl rfl 16 (by decide) (hts _ wd_156) (fun _ h9 => h9) rfl dX7_readLine_20 ?_
    refine lv_iconst (v := 2) hx hb dX7_readLine_23 (by decide) ?_
    refine va_iald hx hb hK hP 3 2 rfl rfl (by unfold vp_in; decide) dX7_readLine_24 ?_
    refine lv_topi (fun x_6600 ex_6600 => ?_)
    have hG := hG.trans (lt_eq ex_6600)
    have cx_6600 : (fM_fresh 2).toInt = x_6600.toInt := congrArg Int32.toInt (show fM_fresh 2 = x_6600 from ex_6600.symm)
    refine lv_bipush (v := 10) hx hb dX7_readLine_25 (by decide) ?_
    refine vz_jgeX hx hb dX7_readLine_27 dX7_readLine_30 dX7_readLine_31 dX7_readLine_34 (fun x_6601 ex_6601 b_x_6601 j_x_6601 => ?_)
    have hG := hG.trans (lt_eq ex_6601)
    have j_x_6601 : 1 ≤ x_6601.toInt → x_6600.toInt < 10 := fun h9 => by have h8 := j_x_6601 h9; rw [kc_10] at h8; exact h8
    have hMs := ml_of hD [true, true, true, true, true, false] (wc := [(oc7 oM iM_thrown rM_tape iM_taped iM_size iM_at iM_end iM_token iM_whole iM_nameSize iM_fault iM_place iM_trouble rM_letters iM_failed iM_hasCourt rM_r rM_fresh rM_told rM_read rM_st rM_undone rM_kept iM_undos iM_images rM_fresher iM_fresherSize iM_scale iM_night rM_heardRow rM_cutRow iM_breaths iM_cutMany iM_allBreaths rM_trial rM_words iM_fewestBreaths iM_orderMany iM_orderSum iM_leastOrder rM_often iM_setMany iM_someOf iM_allOf iM_allWeight iM_enoughWeight iM_worthSum iM_firstRest iM_leastDrawn), (arI rM_tape kM_tape 900 fM_tape), (arI rM_letters kM_letters 8 fM_letters), (arI rM_fresh kM_fresh 287 fM_fresh), (arI rM_read kM_read 90 fM_read)]) rfl
    have hFc := va_freeM hD hS hA _ hMs
    refine va_calli (va_runV (As := [.ref sa_6599, .int x_6601]) (rest := []) ⟨hx, hb, hml, hown, hts⟩ (tX7_begins l dC dI _ oM iM_thrown rM_tape fM_tape kM_tape iM_taped iM_size iM_at iM_end iM_token iM_whole iM_nameSize iM_fault iM_place iM_trouble rM_letters fM_letters kM_letters iM_failed iM_hasCourt rM_r rM_fresh fM_fresh kM_fresh rM_told rM_read fM_read kM_read rM_st rM_undone rM_kept iM_undos iM_images rM_fresher iM_fresherSize iM_scale iM_night rM_heardRow rM_cutRow iM_breaths iM_cutMany iM_allBreaths rM_trial rM_words iM_fewestBreaths iM_orderMany iM_orderSum iM_leastOrder rM_often iM_setMany iM_someOf iM_allOf iM_allWeight iM_enoughWeight iM_worthSum iM_firstRest iM_leastDrawn sa_6599 x_6601 vsa_6599 nsa_6599 fsa_6599 b_iM_taped b_iM_size b_iM_end b_iM_nameSize b_iM_failed b_iM_hasCourt b_iM_undos b_iM_images b_iM_scale b_iM_breaths b_iM_cutMany (by first | assumption | exact (fun h9 => by have q0 := kc_0; have q1 := kc_1; omega)) (by assumption) (by first | assumption | (have q0 := kc_0; have q1 := kc_1; first | exact ⟨by omega, by omega⟩ | omega) | decide | (intro h; exact absurd h (by decide))) (by first | assumption | (have q0 := kc_0; have q1 := kc_1; first | exact ⟨by omega, by omega⟩ | omega) | decide | (intro h; exact absurd h (by decide)))) (cwV 2 hts (wd_V wd_450 wd_451 wd_452 wd_5 (wd_c wd_453)) rfl rfl rfl dv_yX7_begins_2 ⟨Nat.le_of_ble_eq_true rfl, Nat.le_of_ble_eq_true rfl⟩) ⟨Pq.fb, recvX7 hK hP (q0 := 0) rfl, fun U hU hW => Pq.to (hP.ms _ hMs) (hD.ms _ hMs) (hK.ms [true, true, true, true, false] rfl) hSsa_6599 hE hS hFc hU hW⟩ rfl rfl hl.1 rfl (lv_room (Nat.le_of_ble_eq_true rfl)) dX7_readLine_35 ⟨Nat.le_of_ble_eq_true rfl, Nat.le_of_ble_eq_true rfl⟩) hS (fun q _ h => hFc q h) hFc (fun r u t H locs ht hvm hw hB hz1 hk1 hS => ?_)
    have hru9 := hw.2
    have hw := hw.1
    refine ex_9_9 hB (fun x_6602 x_6603 x_6604 x_6605 x_6606 x_6607 x_6608 x_6609 f_6610 b_x_6603 b_x_6606 b_x_6609 e_x_6602_0 e_x_6602_1 e_x_6602_2 e_x_6602_3 e_x_6602_4 e_x_6602_5 hB => ?_)
    obtain ⟨hP, hD⟩ := Bw.goN (ws' := [(oc7 oM iM_thrown rM_tape iM_taped iM_size x_6602 x_6603 x_6604 x_6605 x_6606 x_6607 x_6608 iM_trouble rM_letters x_6609 iM_hasCourt rM_r rM_fresh rM_told rM_read rM_st rM_undone rM_kept iM_undos iM_images rM_fresher iM_fresherSize iM_scale iM_night rM_heardRow rM_cutRow iM_breaths iM_cutMany iM_allBreaths rM_trial rM_words iM_fewestBreaths iM_orderMany iM_orderSum iM_leastOrder rM_often iM_setMany iM_someOf iM_allOf iM_allWeight iM_enoughWeight iM_worthSum iM_firstRest iM_leastDrawn), (arI rM_tape kM_tape 900 fM_tape), (arI rM_letters kM_letters 8 f_6610), (arI rM_fresh kM_fresh 287 fM_fresh), (arI rM_read kM_read 90 fM_read), (arI rM_fresher kM_fresher 8 fM_fresher)]) hB rfl ht hP hD _ hMs hk1 hFc rfl
    clear hz1 hk1 hvm ht hB hMs
    rw [← hru9] at e_x_6602_5
    obtain ⟨x_6611, rfl⟩ : ∃ z, z = r := ⟨_, rfl⟩
    have hG := hG.trans (un10_eq e_x_6602_5)
    have bx_6611 := hw.1
    have dx_6611 := bz_ti bx_6611
    have lx_6611 := hw.2
    clear r_T
    refine lv_if_eq (tgt := 48) hx hb dX7_readLine_38 (by decide) (fun c_6612 => ?_) (fun c_6612 => ?_)
    · skip
      have hG := hG.trans (if_pos c_6612)
      have gc_6612 := ti_eq c_6612 rfl kc_0
      clear e_x_6602_3
      refine lv_aload_n hx hb dX7_readLine_48 rfl (lv_at hl 0 rfl) ?_
      obtain ⟨sa_6613, vsa_6613, nsa_6613, fsa_6613, hnsa_6613, hnesa_6613, hfesa_6613, hRsa_6613, hSsa_6613⟩ := hE.2.2.1 (138, "king", [107, 105, 110, 103]) (by decide)
      have hG := hG.trans (lt_eq hnesa_6613)
      have hG := hG.trans (lt_eq hfesa_6613)
      refine va_ldcS hx hb hown hRsa_6613 dX7_readLine_49 ?_
      refine lv_aload_n hx hb dX7_readLine_51 rfl (lv_at hl 0 rfl) ?_
      refine va_get (D := (dC, dI)) (ci := 7) (v := .ref rM_fresh) (C := RX7) (T := TX7) (N := 48) hx hb hts inX7 hown hK hP 0 rfl rfl 16 (by decide) (hts _ wd_156) (fun _ h9 => h9) rfl dX7_readLine_52 ?_
      refine lv_bipush (v := 7) hx hb dX7_readLine_55 (by decide) ?_
      refine va_iald hx hb hK hP 3 2 rfl rfl (by unfold vp_in; decide) dX7_readLine_57 ?_
      refine lv_topi (fun x_6614 ex_6614 => ?_)
      have hG := hG.trans (lt_eq ex_6614)
      have cx_6614 : (fM_fresh 7).toInt = x_6614.toInt := congrArg Int32.toInt (show fM_fresh 7 = x_6614 from ex_6614.symm)
      refine lv_bipush (v := 8) hx hb dX7_readLine_58 (by decide) ?_
      refine vz_jgeX hx hb dX7_readLine_60 dX7_readLine_63 dX7_readLine_64 dX7_readLine_67 (fun x_6615 ex_6615 b_x_6615 j_x_6615 => ?_)
      have hG := hG.trans (lt_eq ex_6615)
      have j_x_6615 : 1 ≤ x_6615.toInt → x_6614.toInt < 8 := fun h9 => by have h8 := j_x_6615 h9; rw [kc_8] at h8; exact h8
      have hMs := ml_of hD [true, true, true, true, true, false] (wc := [(oc7 oM iM_thrown rM_tape iM_taped iM_size x_6602 x_6603 x_6604 x_6605 x_6606 x_6607 x_6608 iM_trouble rM_letters x_6609 iM_hasCourt rM_r rM_fresh rM_told rM_read rM_st rM_undone rM_kept iM_undos iM_images rM_fresher iM_fresherSize iM_scale iM_night rM_heardRow rM_cutRow iM_breaths iM_cutMany iM_allBreaths rM_trial rM_words iM_fewestBreaths iM_orderMany iM_orderSum iM_leastOrder rM_often iM_setMany iM_someOf iM_allOf iM_allWeight iM_enoughWeight iM_worthSum iM_firstRest iM_leastDrawn), (arI rM_tape kM_tape 900 fM_tape), (arI rM_letters kM_letters 8 f_6610), (arI rM_fresh kM_fresh 287 fM_fresh), (arI rM_read kM_read 90 fM_read)]) rfl
      have hFc := va_freeM hD hS hA _ hMs
      refine va_calli (va_runV (As := [.ref sa_6613, .int x_6615]) (rest := []) ⟨hx, hb, hml, hown, hts⟩ (tX7_begins l dC dI _ oM iM_thrown rM_tape fM_tape kM_tape iM_taped iM_size x_6602 x_6603 x_6604 x_6605 x_6606 x_6607 x_6608 iM_trouble rM_letters f_6610 kM_letters x_6609 iM_hasCourt rM_r rM_fresh fM_fresh kM_fresh rM_told rM_read fM_read kM_read rM_st rM_undone rM_kept iM_undos iM_images rM_fresher iM_fresherSize iM_scale iM_night rM_heardRow rM_cutRow iM_breaths iM_cutMany iM_allBreaths rM_trial rM_words iM_fewestBreaths iM_orderMany iM_orderSum iM_leastOrder rM_often iM_setMany iM_someOf iM_allOf iM_allWeight iM_enoughWeight iM_worthSum iM_firstRest iM_leastDrawn sa_6613 x_6615 vsa_6613 nsa_6613 fsa_6613 b_iM_taped b_iM_size b_x_6603 b_x_6606 b_x_6609 b_iM_hasCourt b_iM_undos b_iM_images b_iM_scale b_iM_breaths b_iM_cutMany (by first | assumption | exact (fun h9 => by have q0 := kc_0; have q1 := kc_1; omega)) (by assumption) (by first | assumption | (have q0 := kc_0; have q1 := kc_1; first | exact ⟨by omega, by omega⟩ | omega) | decide | (intro h; exact absurd h (by decide))) (by first | assumption | (have q0 := kc_0; have q1 := kc_1; first | exact ⟨by omega, by omega⟩ | omega) | decide | (intro h; exact absurd h (by decide)))) (cwV 2 hts (wd_V wd_450 wd_451 wd_452 wd_5 (wd_c wd_453)) rfl rfl rfl dv_yX7_begins_2 ⟨Nat.le_of_ble_eq_true rfl, Nat.le_of_ble_eq_true rfl⟩) ⟨Pq.fb, recvX7 hK hP (q0 := 0) rfl, fun U hU hW => Pq.to (hP.ms _ hMs) (hD.ms _ hMs) (hK.ms [true, true, true, true, false] rfl) hSsa_6613 hE hS hFc hU hW⟩ rfl rfl hl.1 rfl (lv_room (Nat.le_of_ble_eq_true rfl)) dX7_readLine_68 ⟨Nat.le_of_ble_eq_true rfl, Nat.le_of_ble_eq_true rfl⟩) hS (fun q _ h => hFc q h) hFc (fun r u t H locs ht hvm hw hB hz1 hk1 hS => ?_)
      have hru9 := hw.2
      have hw := hw.1
      refine ex_9_9 hB (fun x_6616 x_6617 x_6618 x_6619 x_6620 x_6621 x_6622 x_6623 f_6624 b_x_6617 b_x_6620 b_x_6623 e_x_6616_0 e_x_6616_1 e_x_6616_2 e_x_6616_3 e_x_6616_4 e_x_6616_5 hB => ?_)
      obtain ⟨hP, hD⟩ := Bw.goN (ws' := [(oc7 oM iM_thrown rM_tape iM_taped iM_size x_6616 x_6617 x_6618 x_6619 x_6620 x_6621 x_6622 iM_trouble rM_letters x_6623 iM_hasCourt rM_r rM_fresh rM_told rM_read rM_st rM_undone rM_kept iM_undos iM_images rM_fresher iM_fresherSize iM_scale iM_night rM_heardRow rM_cutRow iM_breaths iM_cutMany iM_allBreaths rM_trial rM_words iM_fewestBreaths iM_orderMany iM_orderSum iM_leastOrder rM_often iM_setMany iM_someOf iM_allOf iM_allWeight iM_enoughWeight iM_worthSum iM_firstRest iM_leastDrawn), (arI rM_tape kM_tape 900 fM_tape), (arI rM_letters kM_letters 8 f_6624), (arI rM_fresh kM_fresh 287 fM_fresh), (arI rM_read kM_read 90 fM_read), (arI rM_fresher kM_fresher 8 fM_fresher)]) hB rfl ht hP hD _ hMs hk1 hFc rfl
      clear hz1 hk1 hvm ht hB hMs
      rw [← hru9] at e_x_6616_5
      obtain ⟨x_6625, rfl⟩ : ∃ z, z = r := ⟨_, rfl⟩
      have hG := hG.trans (un10_eq e_x_6616_5)
      have bx_6625 := hw.1
      have dx_6625 := bz_ti bx_6625
      have lx_6625 := hw.2
      clear e_x_6602_1
      clear e_x_6602_4
      refine lv_if_eq (tgt := 82) hx hb dX7_readLine_71 (by decide) (fun c_6626 => ?_) (fun c_6626 => ?_)
      · skip
        have hG := hG.trans (if_pos c_6626)
        have gc_6626 := ti_eq c_6626 rfl kc_0
        clear e_x_6616_3
        refine lv_aload_n hx hb dX7_readLine_82 rfl (lv_at hl 0 rfl) ?_
        obtain ⟨sa_6627, vsa_6627, nsa_6627, fsa_6627, hnsa_6627, hnesa_6627, hfesa_6627, hRsa_6627, hSsa_6627⟩ := hE.2.2.1 (140, "queen", [113, 117, 101, 101, 110]) (by decide)
        have hG := hG.trans (lt_eq hnesa_6627)
        have hG := hG.trans (lt_eq hfesa_6627)
        refine va_ldcS hx hb hown hRsa_6627 dX7_readLine_83 ?_
        refine lv_aload_n hx hb dX7_readLine_85 rfl (lv_at hl 0 rfl) ?_
        refine va_get (D := (dC, dI)) (ci := 7) (v := .ref rM_fresh) (C := RX7) (T := TX7) (N := 48) hx hb hts inX7 hown hK hP 0 rfl rfl 16 (by decide) (hts _ wd_156) (fun _ h9 => h9) rfl dX7_readLine_86 ?_
        refine lv_bipush (v := 7) hx hb dX7_readLine_89 (by decide) ?_
        refine va_iald hx hb hK hP 3 2 rfl rfl (by unfold vp_in; decide) dX7_readLine_91 ?_
        refine lv_topi (fun x_6628 ex_6628 => ?_)
        have hG := hG.trans (lt_eq ex_6628)
        have cx_6628 : (fM_fresh 7).toInt = x_6628.toInt := congrArg Int32.toInt (show fM_fresh 7 = x_6628 from ex_6628.symm)
        refine lv_bipush (v := 8) hx hb dX7_readLine_92 (by decide) ?_
        refine vz_jgeX hx hb dX7_readLine_94 dX7_readLine_97 dX7_readLine_98 dX7_readLine_101 (fun x_6629 ex_6629 b_x_6629 j_x_6629 => ?_)
        have hG := hG.trans (lt_eq ex_6629)
        have j_x_6629 : 1 ≤ x_6629.toInt → x_6628.toInt < 8 := fun h9 => by have h8 := j_x_6629 h9; rw [kc_8] at h8; exact h8
        have hMs := ml_of hD [true, true, true, true, true, false] (wc := [(oc7 oM iM_thrown rM_tape iM_taped iM_size x_6616 x_6617 x_6618 x_6619 x_6620 x_6621 x_6622 iM_trouble rM_letters x_6623 iM_hasCourt rM_r rM_fresh rM_told rM_read rM_st rM_undone rM_kept iM_undos iM_images rM_fresher iM_fresherSize iM_scale iM_night rM_heardRow rM_cutRow iM_breaths iM_cutMany iM_allBreaths rM_trial rM_words iM_fewestBreaths iM_orderMany iM_orderSum iM_leastOrder rM_often iM_setMany iM_someOf iM_allOf iM_allWeight iM_enoughWeight iM_worthSum iM_firstRest iM_leastDrawn), (arI rM_tape kM_tape 900 fM_tape), (arI rM_letters kM_letters 8 f_6624), (arI rM_fresh kM_fresh 287 fM_fresh), (arI rM_read kM_read 90 fM_read)]) rfl
        have hFc := va_freeM hD hS hA _ hMs
        refine va_calli (va_runV (As := [.ref sa_6627, .int x_6629]) (rest := []) ⟨hx, hb, hml, hown, hts⟩ (tX7_begins l dC dI _ oM iM_thrown rM_tape fM_tape kM_tape iM_taped iM_size x_6616 x_6617 x_6618 x_6619 x_6620 x_6621 x_6622 iM_trouble rM_letters f_6624 kM_letters x_6623 iM_hasCourt rM_r rM_fresh fM_fresh kM_fresh rM_told rM_read fM_read kM_read rM_st rM_undone rM_kept iM_undos iM_images rM_fresher iM_fresherSize iM_scale iM_night rM_heardRow rM_cutRow iM_breaths iM_cutMany iM_allBreaths rM_trial rM_words iM_fewestBreaths iM_orderMany iM_orderSum iM_leastOrder rM_often iM_setMany iM_someOf iM_allOf iM_allWeight iM_enoughWeight iM_worthSum iM_firstRest iM_leastDrawn sa_6627 x_6629 vsa_6627 nsa_6627 fsa_6627 b_iM_taped b_iM_size b_x_6617 b_x_6620 b_x_6623 b_iM_hasCourt b_iM_undos b_iM_images b_iM_scale b_iM_breaths b_iM_cutMany (by first | assumption | exact (fun h9 => by have q0 := kc_0; have q1 := kc_1; omega)) (by assumption) (by first | assumption | (have q0 := kc_0; have q1 := kc_1; first | exact ⟨by omega, by omega⟩ | omega) | decide | (intro h; exact absurd h (by decide))) (by first | assumption | (have q0 := kc_0; have q1 := kc_1; first | exact ⟨by omega, by omega⟩ | omega) | decide | (intro h; exact absurd h (by decide)))) (cwV 2 hts (wd_V wd_450 wd_451 wd_452 wd_5 (wd_c wd_453)) rfl rfl rfl dv_yX7_begins_2 ⟨Nat.le_of_ble_eq_true rfl, Nat.le_of_ble_eq_true rfl⟩) ⟨Pq.fb, recvX7 hK hP (q0 := 0) rfl, fun U hU hW => Pq.to (hP.ms _ hMs) (hD.ms _ hMs) (hK.ms [true, true, true, true, false] rfl) hSsa_6627 hE hS hFc hU hW⟩ rfl rfl hl.1 rfl (lv_room (Nat.le_of_ble_eq_true rfl)) dX7_readLine_102 ⟨Nat.le_of_ble_eq_true rfl, Nat.le_of_ble_eq_true rfl⟩) hS (fun q _ h => hFc q h) hFc (fun r u t H locs ht hvm hw hB hz1 hk1 hS => ?_)
        have hru9 := hw.2
        have hw := hw.1
        refine ex_9_9 hB (fun x_6630 x_6631 x_6632 x_6633 x_6634 x_6635 x_6636 x_6637 f_6638 b_x_6631 b_x_6634 b_x_6637 e_x_6630_0 e_x_6630_1 e_x_6630_2 e_x_6630_3 e_x_6630_4 e_x_6630_5 hB => ?_)
        obtain ⟨hP, hD⟩ := Bw.goN (ws' := [(oc7 oM iM_thrown rM_tape iM_taped iM_size x_6630 x_6631 x_6632 x_6633 x_6634 x_6635 x_6636 iM_trouble rM_letters x_6637 iM_hasCourt rM_r rM_fresh rM_told rM_read rM_st rM_undone rM_kept iM_undos iM_images rM_fresher iM_fresherSize iM_scale iM_night rM_heardRow rM_cutRow iM_breaths iM_cutMany iM_allBreaths rM_trial rM_words iM_fewestBreaths iM_orderMany iM_orderSum iM_leastOrder rM_often iM_setMany iM_someOf iM_allOf iM_allWeight iM_enoughWeight iM_worthSum iM_firstRest iM_leastDrawn), (arI rM_tape kM_tape 900 fM_tape), (arI rM_letters kM_letters 8 f_6638), (arI rM_fresh kM_fresh 287 fM_fresh), (arI rM_read kM_read 90 fM_read), (arI rM_fresher kM_fresher 8 fM_fresher)]) hB rfl ht hP hD _ hMs hk1 hFc rfl
        clear hz1 hk1 hvm ht hB hMs
        rw [← hru9] at e_x_6630_5
        obtain ⟨x_6639, rfl⟩ : ∃ z, z = r := ⟨_, rfl⟩
        have hG := hG.trans (un10_eq e_x_6630_5)
        have bx_6639 := hw.1
        have dx_6639 := bz_ti bx_6639
        have lx_6639 := hw.2
        clear e_x_6616_1
        clear e_x_6616_4
        refine lv_if_eq (tgt := 116) hx hb dX7_readLine_105 (by decide) (fun c_6640 => ?_) (fun c_6640 => ?_)
        · skip
          have hG := hG.trans (if_pos c_6640)
          have gc_6640 := ti_eq c_6640 rfl kc_0
          clear e_x_6630_3
          refine lv_aload_n hx hb dX7_readLine_116 rfl (lv_at hl 0 rfl) ?_
          obtain ⟨sa_6641, vsa_6641, nsa_6641, fsa_6641, hnsa_6641, hnesa_6641, hfesa_6641, hRsa_6641, hSsa_6641⟩ := hE.2.2.1 (142, "chance", [99, 104, 97, 110, 99, 101]) (by decide)
          have hG := hG.trans (lt_eq hnesa_6641)
          have hG := hG.trans (lt_eq hfesa_6641)
          refine va_ldcS hx hb hown hRsa_6641 dX7_readLine_117 ?_
          refine lv_aload_n hx hb dX7_readLine_119 rfl (lv_at hl 0 rfl) ?_
          refine va_get (D := (dC, dI)) (ci := 7) (v := .ref rM_fresh) (C := RX7) (T := TX7) (N := 48) hx hb hts inX7 hown hK hP 0 rfl rfl 16 (by decide) (hts _ wd_156) (fun _ h9 => h9) rfl dX7_readLine_120 ?_
          refine lv_bipush (v := 7) hx hb dX7_readLine_123 (by decide) ?_
          refine va_iald hx hb hK hP 3 2 rfl rfl (by unfold vp_in; decide) dX7_readLine_125 ?_
          refine lv_topi (fun x_6642 ex_6642 => ?_)
          have hG := hG.trans (lt_eq ex_6642)
          have cx_6642 : (fM_fresh 7).toInt = x_6642.toInt := congrArg Int32.toInt (show fM_fresh 7 = x_6642 from ex_6642.symm)
          refine lv_bipush (v := 8) hx hb dX7_readLine_126 (by decide) ?_
          refine lv_icmp_ge (tgt := 146) hx hb dX7_readLine_128 (by decide) (fun c_6643 => ?_) (fun c_6643 => ?_)
          · skip
            have hG := hG.trans (if_pos c_6643)
            have gc_6643 := ti_le c_6643 kc_8 rfl
            refine lv_iconst (v := 0) hx hb dX7_readLine_146 (by decide) ?_
            have hMs := ml_of hD [true, true, true, true, true, false] (wc := [(oc7 oM iM_thrown rM_tape iM_taped iM_size x_6630 x_6631 x_6632 x_6633 x_6634 x_6635 x_6636 iM_trouble rM_letters x_6637 iM_hasCourt rM_r rM_fresh rM_told rM_read rM_st rM_undone rM_kept iM_undos iM_images rM_fresher iM_fresherSize iM_scale iM_night rM_heardRow rM_cutRow iM_breaths iM_cutMany iM_allBreaths rM_trial rM_words iM_fewestBreaths iM_orderMany iM_orderSum iM_leastOrder rM_often iM_setMany iM_someOf iM_allOf iM_allWeight iM_enoughWeight iM_worthSum iM_firstRest iM_leastDrawn), (arI rM_tape kM_tape 900 fM_tape), (arI rM_letters kM_letters 8 f_6638), (arI rM_fresh kM_fresh 287 fM_fresh), (arI rM_read kM_read 90 fM_read)]) rfl
            have hFc := va_freeM hD hS hA _ hMs
            refine va_calli (va_runV (As := [.ref sa_6641, .int 0]) (rest := []) ⟨hx, hb, hml, hown, hts⟩ (tX7_begins l dC dI _ oM iM_thrown rM_tape fM_tape kM_tape iM_taped iM_size x_6630 x_6631 x_6632 x_6633 x_6634 x_6635 x_6636 iM_trouble rM_letters f_6638 kM_letters x_6637 iM_hasCourt rM_r rM_fresh fM_fresh kM_fresh rM_told rM_read fM_read kM_read rM_st rM_undone rM_kept iM_undos iM_images rM_fresher iM_fresherSize iM_scale iM_night rM_heardRow rM_cutRow iM_breaths iM_cutMany iM_allBreaths rM_trial rM_words iM_fewestBreaths iM_orderMany iM_orderSum iM_leastOrder rM_often iM_setMany iM_someOf iM_allOf iM_allWeight iM_enoughWeight iM_worthSum iM_firstRest iM_leastDrawn sa_6641 0 vsa_6641 nsa_6641 fsa_6641 b_iM_taped b_iM_size b_x_6631 b_x_6634 b_x_6637 b_iM_hasCourt b_iM_undos b_iM_images b_iM_scale b_iM_breaths b_iM_cutMany (by first | assumption | exact (fun h9 => by have q0 := kc_0; have q1 := kc_1; omega)) (by assumption) (by first | assumption | (have q0 := kc_0; have q1 := kc_1; first | exact ⟨by omega, by omega⟩ | omega) | decide | (intro h; exact absurd h (by decide))) ⟨(om_b1de7dbe kc_0), (om_270f4ea0 kc_0)⟩) (cwV 2 hts (wd_V wd_450 wd_451 wd_452 wd_5 (wd_c wd_453)) rfl rfl rfl dv_yX7_begins_2 ⟨Nat.le_of_ble_eq_true rfl, Nat.le_of_ble_eq_true rfl⟩) ⟨Pq.fb, recvX7 hK hP (q0 := 0) rfl, fun U hU hW => Pq.to (hP.ms _ hMs) (hD.ms _ hMs) (hK.ms [true, true, true, true, false] rfl) hSsa_6641 hE hS hFc hU hW⟩ rfl rfl hl.1 rfl (lv_room (Nat.le_of_ble_eq_true rfl)) dX7_readLine_147 ⟨Nat.le_of_ble_eq_true rfl, Nat.le_of_ble_eq_true rfl⟩) hS (fun q _ h => hFc q h) hFc (fun r u t H locs ht hvm hw hB hz1 hk1 hS => ?_)
            have hru9 := hw.2
            have hw := hw.1
            refine ex_9_9 hB (fun x_6644 x_6645 x_6646 x_6647 x_6648 x_6649 x_6650 x_6651 f_6652 b_x_6645 b_x_6648 b_x_6651 e_x_6644_0 e_x_6644_1 e_x_6644_2 e_x_6644_3 e_x_6644_4 e_x_6644_5 hB => ?_)
            obtain ⟨hP, hD⟩ := Bw.goN (ws' := [(oc7 oM iM_thrown rM_tape iM_taped iM_size x_6644 x_6645 x_6646 x_6647 x_6648 x_6649 x_6650 iM_trouble rM_letters x_6651 iM_hasCourt rM_r rM_fresh rM_told rM_read rM_st rM_undone rM_kept iM_undos iM_images rM_fresher iM_fresherSize iM_scale iM_night rM_heardRow rM_cutRow iM_breaths iM_cutMany iM_allBreaths rM_trial rM_words iM_fewestBreaths iM_orderMany iM_orderSum iM_leastOrder rM_often iM_setMany iM_someOf iM_allOf iM_allWeight iM_enoughWeight iM_worthSum iM_firstRest iM_leastDrawn), (arI rM_tape kM_tape 900 fM_tape), (arI rM_letters kM_letters 8 f_6652), (arI rM_fresh kM_fresh 287 fM_fresh), (arI rM_read kM_read 90 fM_read), (arI rM_fresher kM_fresher 8 fM_fresher)]) hB rfl ht hP hD _ hMs hk1 hFc rfl
            clear hz1 hk1 hvm ht hB hMs
            rw [← hru9] at e_x_6644_5
            obtain ⟨x_6653, rfl⟩ : ∃ z, z = r := ⟨_, rfl⟩
            have hG := hG.trans (un10_eq e_x_6644_5)
            have bx_6653 := hw.1
            have dx_6653 := bz_ti bx_6653
            have lx_6653 := hw.2
            clear e_x_6630_1
            clear e_x_6630_4
            refine lv_if_eq (tgt := 161) hx hb dX7_readLine_150 (by decide) (fun c_6654 => ?_) (fun c_6654 => ?_)
            · skip
              have hG := hG.trans (if_pos c_6654)
              have gc_6654 := ti_eq c_6654 rfl kc_0
              clear e_x_6644_3
              refine lv_aload_n hx hb dX7_readLine_161 rfl (lv_at hl 0 rfl) ?_
              obtain ⟨sa_6655, vsa_6655, nsa_6655, fsa_6655, hnsa_6655, hnesa_6655, hfesa_6655, hRsa_6655, hSsa_6655⟩ := hE.2.2.1 (144, "throne", [116, 104, 114, 111, 110, 101]) (by decide)
              have hG := hG.trans (lt_eq hnesa_6655)
              have hG := hG.trans (lt_eq hfesa_6655)
              refine va_ldcS hx hb hown hRsa_6655 dX7_readLine_162 ?_
              have hMs := ml_of hD [true, false, true, false, false, false] (wc := [(oc7 oM iM_thrown rM_tape iM_taped iM_size x_6644 x_6645 x_6646 x_6647 x_6648 x_6649 x_6650 iM_trouble rM_letters x_6651 iM_hasCourt rM_r rM_fresh rM_told rM_read rM_st rM_undone rM_kept iM_undos iM_images rM_fresher iM_fresherSize iM_scale iM_night rM_heardRow rM_cutRow iM_breaths iM_cutMany iM_allBreaths rM_trial rM_words iM_fewestBreaths iM_orderMany iM_orderSum iM_leastOrder rM_often iM_setMany iM_someOf iM_allOf iM_allWeight iM_enoughWeight iM_worthSum iM_firstRest iM_leastDrawn), (arI rM_letters kM_letters 8 f_6652)]) rfl
              have hFc := va_freeM hD hS hA _ hMs
              refine va_calli (va_runV (As := [.ref sa_6655]) (rest := []) ⟨hx, hb, hml, hown, hts⟩ (tX7_isWord l dC dI _ oM iM_thrown rM_tape iM_taped iM_size x_6644 x_6645 x_6646 x_6647 x_6648 x_6649 x_6650 iM_trouble rM_letters f_6652 kM_letters x_6651 iM_hasCourt rM_r rM_fresh rM_told rM_read rM_st rM_undone rM_kept iM_undos iM_images rM_fresher iM_fresherSize iM_scale iM_night rM_heardRow rM_cutRow iM_breaths iM_cutMany iM_allBreaths rM_trial rM_words iM_fewestBreaths iM_orderMany iM_orderSum iM_leastOrder rM_often iM_setMany iM_someOf iM_allOf iM_allWeight iM_enoughWeight iM_worthSum iM_firstRest iM_leastDrawn sa_6655 vsa_6655 nsa_6655 fsa_6655 b_iM_taped b_iM_size b_x_6645 b_x_6648 b_x_6651 b_iM_hasCourt b_iM_undos b_iM_images b_iM_scale b_iM_breaths b_iM_cutMany (by first | assumption | exact (fun h9 => by have q0 := kc_0; have q1 := kc_1; omega)) (by first | assumption | (have q0 := kc_0; have q1 := kc_1; first | exact ⟨by omega, by omega⟩ | omega) | decide | (intro h; exact absurd h (by decide)))) (cwV 1 hts (wd_V wd_420 wd_421 wd_422 wd_5 (wd_c wd_423)) rfl rfl rfl dv_yX7_isWord_1 ⟨Nat.le_of_ble_eq_true rfl, Nat.le_of_ble_eq_true rfl⟩) ⟨Pq.fb, recvX7 hK hP (q0 := 0) rfl, fun U hU hW => Pq.to (hP.ms _ hMs) (hD.ms _ hMs) (hK.ms [false, true, false, false, false] rfl) hSsa_6655 hE hS hFc hU hW⟩ rfl rfl hl.1 rfl (lv_room (Nat.le_of_ble_eq_true rfl)) dX7_readLine_164 ⟨Nat.le_of_ble_eq_true rfl, Nat.le_of_ble_eq_true rfl⟩) hS (fun q _ h => hFc q h) hFc (fun r u t H locs ht hvm hw hB hz1 hk1 hS => ?_)
              have hru9 := hw.2
              have hw := hw.1
              obtain ⟨hP, hD⟩ := Bw.goN (ws' := [(oc7 oM iM_thrown rM_tape iM_taped iM_size x_6644 x_6645 x_6646 x_6647 x_6648 x_6649 x_6650 iM_trouble rM_letters x_6651 iM_hasCourt rM_r rM_fresh rM_told rM_read rM_st rM_undone rM_kept iM_undos iM_images rM_fresher iM_fresherSize iM_scale iM_night rM_heardRow rM_cutRow iM_breaths iM_cutMany iM_allBreaths rM_trial rM_words iM_fewestBreaths iM_orderMany iM_orderSum iM_leastOrder rM_often iM_setMany iM_someOf iM_allOf iM_allWeight iM_enoughWeight iM_worthSum iM_firstRest iM_leastDrawn), (arI rM_tape kM_tape 900 fM_tape), (arI rM_letters kM_letters 8 f_6652), (arI rM_fresh kM_fresh 287 fM_fresh), (arI rM_read kM_read 90 fM_read), (arI rM_fresher kM_fresher 8 fM_fresher)]) hB rfl ht hP hD _ hMs hk1 hFc rfl
              clear hz1 hk1 hvm ht hB hMs
              obtain ⟨x_6656, rfl⟩ : ∃ z, z = r := ⟨_, rfl⟩
              have hG := hG.trans (lt_eq hru9.symm)
              have bx_6656 := hw.1
              have dx_6656 := bz_ti bx_6656
              have lx_6656 := hw.2
              refine lv_if_eq (tgt := 177) hx hb dX7_readLine_167 (by decide) (fun c_6657 => ?_) (fun c_6657 => ?_)
              · skip
                have hG := hG.trans (if_pos c_6657)
                have gc_6657 := ti_eq c_6657 rfl kc_0
                clear lx_6656
                refine lv_aload_n hx hb dX7_readLine_177 rfl (lv_at hl 0 rfl) ?_
                obtain ⟨sa_6658, vsa_6658, nsa_6658, fsa_6658, hnsa_6658, hnesa_6658, hfesa_6658, hRsa_6658, hSsa_6658⟩ := hE.2.2.1 (146, "unsure", [117, 110, 115, 117, 114, 101]) (by decide)
                have hG := hG.trans (lt_eq hnesa_6658)
                have hG := hG.trans (lt_eq hfesa_6658)
                refine va_ldcS hx hb hown hRsa_6658 dX7_readLine_178 ?_
                refine lv_aload_n hx hb dX7_readLine_180 rfl (lv_at hl 0 rfl) ?_
                refine va_get (D := (dC, dI)) (ci := 7) (v := .ref rM_fresh) (C := RX7) (T := TX7) (N := 48) hx hb hts inX7 hown hK hP 0 rfl rfl 16 (by decide) (hts _ wd_156) (fun _ h9 => h9) rfl dX7_readLine_181 ?_
                refine lv_iconst (v := 3) hx hb dX7_readLine_184 (by decide) ?_
                refine va_iald hx hb hK hP 3 2 rfl rfl (by unfold vp_in; decide) dX7_readLine_185 ?_
                refine lv_topi (fun x_6659 ex_6659 => ?_)
                have hG := hG.trans (lt_eq ex_6659)
                have cx_6659 : (fM_fresh 3).toInt = x_6659.toInt := congrArg Int32.toInt (show fM_fresh 3 = x_6659 from ex_6659.symm)
                refine lv_iconst (v := 4) hx hb dX7_readLine_186 (by decide) ?_
                refine vz_jgeX hx hb dX7_readLine_187 dX7_readLine_190 dX7_readLine_191 dX7_readLine_194 (fun x_6660 ex_6660 b_x_6660 j_x_6660 => ?_)
                have hG := hG.trans (lt_eq ex_6660)
                have j_x_6660 : 1 ≤ x_6660.toInt → x_6659.toInt < 4 := fun h9 => by have h8 := j_x_6660 h9; rw [kc_4] at h8; exact h8
                have hMs := ml_of hD [true, true, true, true, true, false] (wc := [(oc7 oM iM_thrown rM_tape iM_taped iM_size x_6644 x_6645 x_6646 x_6647 x_6648 x_6649 x_6650 iM_trouble rM_letters x_6651 iM_hasCourt rM_r rM_fresh rM_told rM_read rM_st rM_undone rM_kept iM_undos iM_images rM_fresher iM_fresherSize iM_scale iM_night rM_heardRow rM_cutRow iM_breaths iM_cutMany iM_allBreaths rM_trial rM_words iM_fewestBreaths iM_orderMany iM_orderSum iM_leastOrder rM_often iM_setMany iM_someOf iM_allOf iM_allWeight iM_enoughWeight iM_worthSum iM_firstRest iM_leastDrawn), (arI rM_tape kM_tape 900 fM_tape), (arI rM_letters kM_letters 8 f_6652), (arI rM_fresh kM_fresh 287 fM_fresh), (arI rM_read kM_read 90 fM_read)]) rfl
                have hFc := va_freeM hD hS hA _ hMs
                refine va_calli (va_runV (As := [.ref sa_6658, .int x_6660]) (rest := []) ⟨hx, hb, hml, hown, hts⟩ (tX7_begins l dC dI _ oM iM_thrown rM_tape fM_tape kM_tape iM_taped iM_size x_6644 x_6645 x_6646 x_6647 x_6648 x_6649 x_6650 iM_trouble rM_letters f_6652 kM_letters x_6651 iM_hasCourt rM_r rM_fresh fM_fresh kM_fresh rM_told rM_read fM_read kM_read rM_st rM_undone rM_kept iM_undos iM_images rM_fresher iM_fresherSize iM_scale iM_night rM_heardRow rM_cutRow iM_breaths iM_cutMany iM_allBreaths rM_trial rM_words iM_fewestBreaths iM_orderMany iM_orderSum iM_leastOrder rM_often iM_setMany iM_someOf iM_allOf iM_allWeight iM_enoughWeight iM_worthSum iM_firstRest iM_leastDrawn sa_6658 x_6660 vsa_6658 nsa_6658 fsa_6658 b_iM_taped b_iM_size b_x_6645 b_x_6648 b_x_6651 b_iM_hasCourt b_iM_undos b_iM_images b_iM_scale b_iM_breaths b_iM_cutMany (by first | assumption | exact (fun h9 => by have q0 := kc_0; have q1 := kc_1; omega)) (by assumption) (by first | assumption | (have q0 := kc_0; have q1 := kc_1; first | exact ⟨by omega, by omega⟩ | omega) | decide | (intro h; exact absurd h (by decide))) (by first | assumption | (have q0 := kc_0; have q1 := kc_1; first | exact ⟨by omega, by omega⟩ | omega) | decide | (intro h; exact absurd h (by decide)))) (cwV 2 hts (wd_V wd_450 wd_451 wd_452 wd_5 (wd_c wd_453)) rfl rfl rfl dv_yX7_begins_2 ⟨Nat.le_of_ble_eq_true rfl, Nat.le_of_ble_eq_true rfl⟩) ⟨Pq.fb, recvX7 hK hP (q0 := 0) rfl, fun U hU hW => Pq.to (hP.ms _ hMs) (hD.ms _ hMs) (hK.ms [true, true, true, true, false] rfl) hSsa_6658 hE hS hFc hU hW⟩ rfl rfl hl.1 rfl (lv_room (Nat.le_of_ble_eq_true rfl)) dX7_readLine_195 ⟨Nat.le_of_ble_eq_true rfl, Nat.le_of_ble_eq_true rfl⟩) hS (fun q _ h => hFc q h) hFc (fun r u t H locs ht hvm hw hB hz1 hk1 hS => ?_)
                have hru9 := hw.2
                have hw := hw.1
                refine ex_9_9 hB (fun x_6661 x_6662 x_6663 x_6664 x_6665 x_6666 x_6667 x_6668 f_6669 b_x_6662 b_x_6665 b_x_6668 e_x_6661_0 e_x_6661_1 e_x_6661_2 e_x_6661_3 e_x_6661_4 e_x_6661_5 hB => ?_)
                obtain ⟨hP, hD⟩ := Bw.goN (ws' := [(oc7 oM iM_thrown rM_tape iM_taped iM_size x_6661 x_6662 x_6663 x_6664 x_6665 x_6666 x_6667 iM_trouble rM_letters x_6668 iM_hasCourt rM_r rM_fresh rM_told rM_read rM_st rM_undone rM_kept iM_undos iM_images rM_fresher iM_fresherSize iM_scale iM_night rM_heardRow rM_cutRow iM_breaths iM_cutMany iM_allBreaths rM_trial rM_words iM_fewestBreaths iM_orderMany iM_orderSum iM_leastOrder rM_often iM_setMany iM_someOf iM_allOf iM_allWeight iM_enoughWeight iM_worthSum iM_firstRest iM_leastDrawn), (arI rM_tape kM_tape 900 fM_tape), (arI rM_letters kM_letters 8 f_6669), (arI rM_fresh kM_fresh 287 fM_fresh), (arI rM_read kM_read 90 fM_read), (arI rM_fresher kM_fresher 8 fM_fresher)]) hB rfl ht hP hD _ hMs hk1 hFc rfl
                clear hz1 hk1 hvm ht hB hMs
                rw [← hru9] at e_x_6661_5
                obtain ⟨x_6670, rfl⟩ : ∃ z, z = r := ⟨_, rfl⟩
                have hG := hG.trans (un10_eq e_x_6661_5)
                have bx_6670 := hw.1
                have dx_6670 := bz_ti bx_6670
                have lx_6670 := hw.2
                clear e_x_6644_1
                clear e_x_6644_4
                refine lv_if_eq (tgt := 208) hx hb dX7_readLine_198 (by decide) (fun c_6671 => ?_) (fun c_6671 => ?_)
                · skip
                  have hG := hG.trans (if_pos c_6671)
                  have gc_6671 := ti_eq c_6671 rfl kc_0
                  clear e_x_6661_3
                  refine lv_aload_n hx hb dX7_readLine_208 rfl (lv_at hl 0 rfl) ?_
                  obtain ⟨sa_6672, vsa_6672, nsa_6672, fsa_6672, hnsa_6672, hnesa_6672, hfesa_6672, hRsa_6672, hSsa_6672⟩ := hE.2.2.1 (148, "said", [115, 97, 105, 100]) (by decide)
                  have hG := hG.trans (lt_eq hnesa_6672)
                  have hG := hG.trans (lt_eq hfesa_6672)
                  refine va_ldcS hx hb hown hRsa_6672 dX7_readLine_209 ?_
                  have hMs := ml_of hD [true, false, true, false, false, false] (wc := [(oc7 oM iM_thrown rM_tape iM_taped iM_size x_6661 x_6662 x_6663 x_6664 x_6665 x_6666 x_6667 iM_trouble rM_letters x_6668 iM_hasCourt rM_r rM_fresh rM_told rM_read rM_st rM_undone rM_kept iM_undos iM_images rM_fresher iM_fresherSize iM_scale iM_night rM_heardRow rM_cutRow iM_breaths iM_cutMany iM_allBreaths rM_trial rM_words iM_fewestBreaths iM_orderMany iM_orderSum iM_leastOrder rM_often iM_setMany iM_someOf iM_allOf iM_allWeight iM_enoughWeight iM_worthSum iM_firstRest iM_leastDrawn), (arI rM_letters kM_letters 8 f_6669)]) rfl
                  have hFc := va_freeM hD hS hA _ hMs
                  refine va_calli (va_runV (As := [.ref sa_6672]) (rest := []) ⟨hx, hb, hml, hown, hts⟩ (tX7_isWord l dC dI _ oM iM_thrown rM_tape iM_taped iM_size x_6661 x_6662 x_6663 x_6664 x_6665 x_6666 x_6667 iM_trouble rM_letters f_6669 kM_letters x_6668 iM_hasCourt rM_r rM_fresh rM_told rM_read rM_st rM_undone rM_kept iM_undos iM_images rM_fresher iM_fresherSize iM_scale iM_night rM_heardRow rM_cutRow iM_breaths iM_cutMany iM_allBreaths rM_trial rM_words iM_fewestBreaths iM_orderMany iM_orderSum iM_leastOrder rM_often iM_setMany iM_someOf iM_allOf iM_allWeight iM_enoughWeight iM_worthSum iM_firstRest iM_leastDrawn sa_6672 vsa_6672 nsa_6672 fsa_6672 b_iM_taped b_iM_size b_x_6662 b_x_6665 b_x_6668 b_iM_hasCourt b_iM_undos b_iM_images b_iM_scale b_iM_breaths b_iM_cutMany (by first | assumption | exact (fun h9 => by have q0 := kc_0; have q1 := kc_1; omega)) (by first | assumption | (have q0 := kc_0; have q1 := kc_1; first | exact ⟨by omega, by omega⟩ | omega) | decide | (intro h; exact absurd h (by decide)))) (cwV 1 hts (wd_V wd_420 wd_421 wd_422 wd_5 (wd_c wd_423)) rfl rfl rfl dv_yX7_isWord_1 ⟨Nat.le_of_ble_eq_true rfl, Nat.le_of_ble_eq_true rfl⟩) ⟨Pq.fb, recvX7 hK hP (q0 := 0) rfl, fun U hU hW => Pq.to (hP.ms _ hMs) (hD.ms _ hMs) (hK.ms [false, true, false, false, false] rfl) hSsa_6672 hE hS hFc hU hW⟩ rfl rfl hl.1 rfl (lv_room (Nat.le_of_ble_eq_true rfl)) dX7_readLine_211 ⟨Nat.le_of_ble_eq_true rfl, Nat.le_of_ble_eq_true rfl⟩) hS (fun q _ h => hFc q h) hFc (fun r u t H locs ht hvm hw hB hz1 hk1 hS => ?_)
                  have hru9 := hw.2
                  have hw := hw.1
                  obtain ⟨hP, hD⟩ := Bw.goN (ws' := [(oc7 oM iM_thrown rM_tape iM_taped iM_size x_6661 x_6662 x_6663 x_6664 x_6665 x_6666 x_6667 iM_trouble rM_letters x_6668 iM_hasCourt rM_r rM_fresh rM_told rM_read rM_st rM_undone rM_kept iM_undos iM_images rM_fresher iM_fresherSize iM_scale iM_night rM_heardRow rM_cutRow iM_breaths iM_cutMany iM_allBreaths rM_trial rM_words iM_fewestBreaths iM_orderMany iM_orderSum iM_leastOrder rM_often iM_setMany iM_someOf iM_allOf iM_allWeight iM_enoughWeight iM_worthSum iM_firstRest iM_leastDrawn), (arI rM_tape kM_tape 900 fM_tape), (arI rM_letters kM_letters 8 f_6669), (arI rM_fresh kM_fresh 287 fM_fresh), (arI rM_read kM_read 90 fM_read), (arI rM_fresher kM_fresher 8 fM_fresher)]) hB rfl ht hP hD _ hMs hk1 hFc rfl
                  clear hz1 hk1 hvm ht hB hMs
                  obtain ⟨x_6673, rfl⟩ : ∃ z, z = r := ⟨_, rfl⟩
                  have hG := hG.trans (lt_eq hru9.symm)
                  have bx_6673 := hw.1
                  have dx_6673 := bz_ti bx_6673
                  have lx_6673 := hw.2
                  refine lv_if_eq (tgt := 224) hx hb dX7_readLine_214 (by decide) (fun c_6674 => ?_) (fun c_6674 => ?_)
                  · skip
                    have hG := hG.trans (if_pos c_6674)
                    have gc_6674 := ti_eq c_6674 rfl kc_0
                    clear lx_6673
                    refine lv_aload_n hx hb dX7_readLine_224 rfl (lv_at hl 0 rfl) ?_
                    refine lv_iconst (v := 1) hx hb dX7_readLine_225 (by decide) ?_
                    refine lv_aload_n hx hb dX7_readLine_226 rfl (lv_at hl 0 rfl) ?_
                    refine va_get (D := (dC, dI)) (ci := 7) (v := .int x_6661) (C := RX7) (T := TX7) (N := 48) hx hb hts inX7 hown hK hP 0 rfl rfl 4 (by decide) (hts _ wd_384) (fun _ h9 => h9) rfl dX7_readLine_227 ?_
                    have hMs := ml_of hD [true, false, false, false, false, false] (wc := [(oc7 oM iM_thrown rM_tape iM_taped iM_size x_6661 x_6662 x_6663 x_6664 x_6665 x_6666 x_6667 iM_trouble rM_letters x_6668 iM_hasCourt rM_r rM_fresh rM_told rM_read rM_st rM_undone rM_kept iM_undos iM_images rM_fresher iM_fresherSize iM_scale iM_night rM_heardRow rM_cutRow iM_breaths iM_cutMany iM_allBreaths rM_trial rM_words iM_fewestBreaths iM_orderMany iM_orderSum iM_leastOrder rM_often iM_setMany iM_someOf iM_allOf iM_allWeight iM_enoughWeight iM_worthSum iM_firstRest iM_leastDrawn)]) rfl
                    have hFc := va_freeM hD hS hA _ hMs
                    refine va_callv (va_runV (As := [.int 1, .int x_6661]) (rest := []) ⟨hx, hb, hml, hown, hts⟩ (tX7_wrong l dC dI _ oM iM_thrown rM_tape iM_taped iM_size x_6661 x_6662 x_6663 x_6664 x_6665 x_6666 x_6667 iM_trouble rM_letters x_6668 iM_hasCourt rM_r rM_fresh rM_told rM_read rM_st rM_undone rM_kept iM_undos iM_images rM_fresher iM_fresherSize iM_scale iM_night rM_heardRow rM_cutRow iM_breaths iM_cutMany iM_allBreaths rM_trial rM_words iM_fewestBreaths iM_orderMany iM_orderSum iM_leastOrder rM_often iM_setMany iM_someOf iM_allOf iM_allWeight iM_enoughWeight iM_worthSum iM_firstRest iM_leastDrawn 1 x_6661 b_iM_taped b_iM_size b_x_6662 b_x_6665 b_x_6668 b_iM_hasCourt b_iM_undos b_iM_images b_iM_scale b_iM_breaths b_iM_cutMany (by first | assumption | exact (fun h9 => by have q0 := kc_0; have q1 := kc_1; omega))) (cwV 2 hts (wd_V wd_430 wd_431 wd_432 wd_5 (wd_c wd_433)) rfl rfl rfl dv_yX7_wrong_2 ⟨Nat.le_of_ble_eq_true rfl, Nat.le_of_ble_eq_true rfl⟩) ⟨Pw.fb, recvX7 hK hP (q0 := 0) rfl, fun U hU hW => Pw.to (hP.ms _ hMs) (hD.ms _ hMs) (hK.ms [false, false, false, false, false] rfl) hE hS hFc hU hW⟩ rfl rfl hl.1 rfl (lv_room (Nat.le_of_ble_eq_true rfl)) dX7_readLine_230 ⟨Nat.le_of_ble_eq_true rfl, Nat.le_of_ble_eq_true rfl⟩) hS (fun q _ h => hFc q h) hFc (fun u t H locs ht hvm hw hB hz1 hk1 hS => ?_)
                    refine ex_3_3 hB (fun x_6675 x_6676 x_6677 b_x_6677 e_x_6675_0 e_x_6675_1 hB => ?_)
                    obtain ⟨hP, hD⟩ := Bw.goN (ws' := [(oc7 oM iM_thrown rM_tape iM_taped iM_size x_6661 x_6662 x_6663 x_6664 x_6665 x_6675 x_6676 iM_trouble rM_letters x_6677 iM_hasCourt rM_r rM_fresh rM_told rM_read rM_st rM_undone rM_kept iM_undos iM_images rM_fresher iM_fresherSize iM_scale iM_night rM_heardRow rM_cutRow iM_breaths iM_cutMany iM_allBreaths rM_trial rM_words iM_fewestBreaths iM_orderMany iM_orderSum iM_leastOrder rM_often iM_setMany iM_someOf iM_allOf iM_allWeight iM_enoughWeight iM_worthSum iM_firstRest iM_leastDrawn), (arI rM_tape kM_tape 900 fM_tape), (arI rM_letters kM_letters 8 f_6669), (arI rM_fresh kM_fresh 287 fM_fresh), (arI rM_read kM_read 90 fM_read), (arI rM_fresher kM_fresher 8 fM_fresher)]) hB rfl ht hP hD _ hMs hk1 hFc rfl
                    clear hz1 hk1 hvm ht hB hMs
                    have hG := hG.trans (un3_eq e_x_6675_1)
                    exact wq_v hx hb hr 0 trivial (fun t ht hW => ⟨x_6661, x_6662, x_6663, x_6664, x_6665, x_6675, x_6676, x_6677, iM_fresherSize, f_6669, fM_fresh, fM_read, fM_fresher, b_x_6662, b_x_6665, b_x_6677, (by first | assumption | (have q0 := kc_0; have q1 := kc_1; omega)), e_x_6661_1, (by first | assumption | (have q0 := kc_0; have q1 := kc_1; omega)), (fun h9 => by have q0 := kc_0; have q1 := kc_1; omega), (by first | assumption | (have q0 := kc_0; have q1 := kc_1; omega)), hG, Bw.to hP hD hK ht hW⟩) hS dX7_readLine_233 hlocks
                  · skip
                    have hG := hG.trans (if_neg c_6674)
                    have gc_6674 := ti_ne c_6674 rfl kc_0
                    replace gc_6674 : (-1) * x_6673.toInt + 1 ≤ 0 := by omega
                    have h_6678 := lx_6673 (by omega)
                    clear lx_6673
                    have h_6679 := e_x_6661_1 (by omega)
                    clear e_x_6661_1
                    refine lv_aload_n hx hb dX7_readLine_217 rfl (lv_at hl 0 rfl) ?_
                    have hMs := ml_of hD [true, true, true, true, true, false] (wc := [(oc7 oM iM_thrown rM_tape iM_taped iM_size x_6661 x_6662 x_6663 x_6664 x_6665 x_6666 x_6667 iM_trouble rM_letters x_6668 iM_hasCourt rM_r rM_fresh rM_told rM_read rM_st rM_undone rM_kept iM_undos iM_images rM_fresher iM_fresherSize iM_scale iM_night rM_heardRow rM_cutRow iM_breaths iM_cutMany iM_allBreaths rM_trial rM_words iM_fewestBreaths iM_orderMany iM_orderSum iM_leastOrder rM_often iM_setMany iM_someOf iM_allOf iM_allWeight iM_enoughWeight iM_worthSum iM_firstRest iM_leastDrawn), (arI rM_tape kM_tape 900 fM_tape), (arI rM_letters kM_letters 8 f_6669), (arI rM_fresh kM_fresh 287 fM_fresh), (arI rM_read kM_read 90 fM_read)]) rfl
                    have hFc := va_freeM hD hS hA _ hMs
                    refine va_callv (va_runV (As := []) (rest := []) ⟨hx, hb, hml, hown, hts⟩ (tX7_saidLine l dC dI _ oM iM_thrown rM_tape fM_tape kM_tape iM_taped iM_size x_6661 x_6662 x_6663 x_6664 x_6665 x_6666 x_6667 iM_trouble rM_letters f_6669 kM_letters x_6668 iM_hasCourt rM_r rM_fresh fM_fresh kM_fresh rM_told rM_read fM_read kM_read rM_st rM_undone rM_kept iM_undos iM_images rM_fresher iM_fresherSize iM_scale iM_night rM_heardRow rM_cutRow iM_breaths iM_cutMany iM_allBreaths rM_trial rM_words iM_fewestBreaths iM_orderMany iM_orderSum iM_leastOrder rM_often iM_setMany iM_someOf iM_allOf iM_allWeight iM_enoughWeight iM_worthSum iM_firstRest iM_leastDrawn b_iM_taped b_iM_size b_x_6662 b_x_6665 b_x_6668 b_iM_hasCourt b_iM_undos b_iM_images b_iM_scale b_iM_breaths b_iM_cutMany (by first | assumption | exact (fun h9 => by have q0 := kc_0; have q1 := kc_1; omega)) (by assumption)) (cwV 0 hts (wd_V wd_498 wd_499 wd_500 wd_5 (wd_c wd_501)) rfl rfl rfl dv_yX7_saidLine_0 ⟨Nat.le_of_ble_eq_true rfl, Nat.le_of_ble_eq_true rfl⟩) ⟨Pw.fb, recvX7 hK hP (q0 := 0) rfl, fun U hU hW => Pw.to (hP.ms _ hMs) (hD.ms _ hMs) (hK.ms [true, true, true, true, false] rfl) hE hS hFc hU hW⟩ rfl rfl hl.1 rfl (lv_room (Nat.le_of_ble_eq_true rfl)) dX7_readLine_218 ⟨Nat.le_of_ble_eq_true rfl, Nat.le_of_ble_eq_true rfl⟩) hS (fun q _ h => hFc q h) hFc (fun u t H locs ht hvm hw hB hz1 hk1 hS => ?_)
                    refine ex_10_9 hB (fun x_6680 x_6681 x_6682 x_6683 x_6684 x_6685 x_6686 x_6687 f_6688 f_6689 b_x_6681 b_x_6684 b_x_6687 e_x_6680_0 e_x_6680_1 e_x_6680_2 e_x_6680_3 e_x_6680_4 e_x_6680_5 hB => ?_)
                    obtain ⟨hP, hD⟩ := Bw.goN (ws' := [(oc7 oM iM_thrown rM_tape iM_taped iM_size x_6680 x_6681 x_6682 x_6683 x_6684 x_6685 x_6686 iM_trouble rM_letters x_6687 iM_hasCourt rM_r rM_fresh rM_told rM_read rM_st rM_undone rM_kept iM_undos iM_images rM_fresher iM_fresherSize iM_scale iM_night rM_heardRow rM_cutRow iM_breaths iM_cutMany iM_allBreaths rM_trial rM_words iM_fewestBreaths iM_orderMany iM_orderSum iM_leastOrder rM_often iM_setMany iM_someOf iM_allOf iM_allWeight iM_enoughWeight iM_worthSum iM_firstRest iM_leastDrawn), (arI rM_tape kM_tape 900 fM_tape), (arI rM_letters kM_letters 8 f_6688), (arI rM_fresh kM_fresh 287 f_6689), (arI rM_read kM_read 90 fM_read), (arI rM_fresher kM_fresher 8 fM_fresher)]) hB rfl ht hP hD _ hMs hk1 hFc rfl
                    clear hz1 hk1 hvm ht hB hMs
                    have pl_f_6689 := e_x_6680_4.lins
                    have hG := hG.trans (un10_eq e_x_6680_5)
                    clear e_x_6661_4
                    refine lv_goto (tgt := 233) hx hb dX7_readLine_221 (by decide) ?_
                    exact wq_v hx hb hr 0 trivial (fun t ht hW => ⟨x_6680, x_6681, x_6682, x_6683, x_6684, x_6685, x_6686, x_6687, iM_fresherSize, f_6688, f_6689, fM_read, fM_fresher, b_x_6681, b_x_6684, b_x_6687, (by first | assumption | (have q0 := kc_0; have q1 := kc_1; omega)), e_x_6680_1, (by first | assumption | (have q0 := kc_0; have q1 := kc_1; omega)), (fun h9 => by have q0 := kc_0; have q1 := kc_1; have q9 := e_x_6680_3 (by omega); omega), (by first | assumption | (have q0 := kc_0; have q1 := kc_1; omega)), hG, Bw.to hP hD hK ht hW⟩) hS dX7_readLine_233 hlocks
                · skip
                  have hG := hG.trans (if_neg c_6671)
                  have gc_6671 := ti_ne c_6671 rfl kc_0
                  replace gc_6671 : (-1) * x_6670.toInt + 1 ≤ 0 := by omega
                  have h_6690 := e_x_6661_3 (by omega)
                  clear e_x_6661_3
                  refine lv_aload_n hx hb dX7_readLine_201 rfl (lv_at hl 0 rfl) ?_
                  have hMs := ml_of hD [true, true, true, true, true, false] (wc := [(oc7 oM iM_thrown rM_tape iM_taped iM_size x_6661 x_6662 x_6663 x_6664 x_6665 x_6666 x_6667 iM_trouble rM_letters x_6668 iM_hasCourt rM_r rM_fresh rM_told rM_read rM_st rM_undone rM_kept iM_undos iM_images rM_fresher iM_fresherSize iM_scale iM_night rM_heardRow rM_cutRow iM_breaths iM_cutMany iM_allBreaths rM_trial rM_words iM_fewestBreaths iM_orderMany iM_orderSum iM_leastOrder rM_often iM_setMany iM_someOf iM_allOf iM_allWeight iM_enoughWeight iM_worthSum iM_firstRest iM_leastDrawn), (arI rM_tape kM_tape 900 fM_tape), (arI rM_letters kM_letters 8 f_6669), (arI rM_fresh kM_fresh 287 fM_fresh), (arI rM_read kM_read 90 fM_read)]) rfl
                  have hFc := va_freeM hD hS hA _ hMs
                  refine va_callv (va_runV (As := []) (rest := []) ⟨hx, hb, hml, hown, hts⟩ (tX7_unsureLine l dC dI _ oM iM_thrown rM_tape fM_tape kM_tape iM_taped iM_size x_6661 x_6662 x_6663 x_6664 x_6665 x_6666 x_6667 iM_trouble rM_letters f_6669 kM_letters x_6668 iM_hasCourt rM_r rM_fresh fM_fresh kM_fresh rM_told rM_read fM_read kM_read rM_st rM_undone rM_kept iM_undos iM_images rM_fresher iM_fresherSize iM_scale iM_night rM_heardRow rM_cutRow iM_breaths iM_cutMany iM_allBreaths rM_trial rM_words iM_fewestBreaths iM_orderMany iM_orderSum iM_leastOrder rM_often iM_setMany iM_someOf iM_allOf iM_allWeight iM_enoughWeight iM_worthSum iM_firstRest iM_leastDrawn b_iM_taped b_iM_size b_x_6662 b_x_6665 b_x_6668 b_iM_hasCourt b_iM_undos b_iM_images b_iM_scale b_iM_breaths b_iM_cutMany (by first | assumption | exact (fun h9 => by have q0 := kc_0; have q1 := kc_1; omega)) (by assumption) (by intro h9; have q0 := kc_0; have q1 := kc_1; have q2 := kc_2; have q3 := kc_3; omega)) (cwV 0 hts (wd_V wd_494 wd_495 wd_496 wd_5 (wd_c wd_497)) rfl rfl rfl dv_yX7_unsureLine_0 ⟨Nat.le_of_ble_eq_true rfl, Nat.le_of_ble_eq_true rfl⟩) ⟨Pw.fb, recvX7 hK hP (q0 := 0) rfl, fun U hU hW => Pw.to (hP.ms _ hMs) (hD.ms _ hMs) (hK.ms [true, true, true, true, false] rfl) hE hS hFc hU hW⟩ rfl rfl hl.1 rfl (lv_room (Nat.le_of_ble_eq_true rfl)) dX7_readLine_202 ⟨Nat.le_of_ble_eq_true rfl, Nat.le_of_ble_eq_true rfl⟩) hS (fun q _ h => hFc q h) hFc (fun u t H locs ht hvm hw hB hz1 hk1 hS => ?_)
                  refine ex_10_9 hB (fun x_6691 x_6692 x_6693 x_6694 x_6695 x_6696 x_6697 x_6698 f_6699 f_6700 b_x_6692 b_x_6695 b_x_6698 e_x_6691_0 e_x_6691_1 e_x_6691_2 e_x_6691_3 e_x_6691_4 e_x_6691_5 hB => ?_)
                  obtain ⟨hP, hD⟩ := Bw.goN (ws' := [(oc7 oM iM_thrown rM_tape iM_taped iM_size x_6691 x_6692 x_6693 x_6694 x_6695 x_6696 x_6697 iM_trouble rM_letters x_6698 iM_hasCourt rM_r rM_fresh rM_told rM_read rM_st rM_undone rM_kept iM_undos iM_images rM_fresher iM_fresherSize iM_scale iM_night rM_heardRow rM_cutRow iM_breaths iM_cutMany iM_allBreaths rM_trial rM_words iM_fewestBreaths iM_orderMany iM_orderSum iM_leastOrder rM_often iM_setMany iM_someOf iM_allOf iM_allWeight iM_enoughWeight iM_worthSum iM_firstRest iM_leastDrawn), (arI rM_tape kM_tape 900 fM_tape), (arI rM_letters kM_letters 8 f_6699), (arI rM_fresh kM_fresh 287 f_6700), (arI rM_read kM_read 90 fM_read), (arI rM_fresher kM_fresher 8 fM_fresher)]) hB rfl ht hP hD _ hMs hk1 hFc rfl
                  clear hz1 hk1 hvm ht hB hMs
                  have pl_f_6700 := e_x_6691_4.lins
                  have hG := hG.trans (un10_eq e_x_6691_5)
                  clear e_x_6661_1
                  clear e_x_6661_4
                  refine lv_goto (tgt := 233) hx hb dX7_readLine_205 (by decide) ?_
                  exact wq_v hx hb hr 0 trivial (fun t ht hW => ⟨x_6691, x_6692, x_6693, x_6694, x_6695, x_6696, x_6697, x_6698, iM_fresherSize, f_6699, f_6700, fM_read, fM_fresher, b_x_6692, b_x_6695, b_x_6698, (by first | assumption | (have q0 := kc_0; have q1 := kc_1; omega)), e_x_6691_1, (by first | assumption | (have q0 := kc_0; have q1 := kc_1; omega)), (fun h9 => by have q0 := kc_0; have q1 := kc_1; have q9 := e_x_6691_3 (by omega); omega), (by first | assumption | (have q0 := kc_0; have q1 := kc_1; omega)), hG, Bw.to hP hD hK ht hW⟩) hS dX7_readLine_233 hlocks
              · skip
                have hG := hG.trans (if_neg c_6657)
                have gc_6657 := ti_ne c_6657 rfl kc_0
                replace gc_6657 : (-1) * x_6656.toInt + 1 ≤ 0 := by omega
                have h_6701 := lx_6656 (by omega)
                clear lx_6656
                have h_6702 := e_x_6644_1 (by omega)
                clear e_x_6644_1
                refine lv_aload_n hx hb dX7_readLine_170 rfl (lv_at hl 0 rfl) ?_
                have hMs := ml_of hD [true, true, true, true, true, false] (wc := [(oc7 oM iM_thrown rM_tape iM_taped iM_size x_6644 x_6645 x_6646 x_6647 x_6648 x_6649 x_6650 iM_trouble rM_letters x_6651 iM_hasCourt rM_r rM_fresh rM_told rM_read rM_st rM_undone rM_kept iM_undos iM_images rM_fresher iM_fresherSize iM_scale iM_night rM_heardRow rM_cutRow iM_breaths iM_cutMany iM_allBreaths rM_trial rM_words iM_fewestBreaths iM_orderMany iM_orderSum iM_leastOrder rM_often iM_setMany iM_someOf iM_allOf iM_allWeight iM_enoughWeight iM_worthSum iM_firstRest iM_leastDrawn), (arI rM_tape kM_tape 900 fM_tape), (arI rM_letters kM_letters 8 f_6652), (arI rM_fresh kM_fresh 287 fM_fresh), (arI rM_read kM_read 90 fM_read)]) rfl
                have hFc := va_freeM hD hS hA _ hMs
                refine va_callv (va_runV (As := []) (rest := []) ⟨hx, hb, hml, hown, hts⟩ (tX7_throneLine l dC dI _ oM iM_thrown rM_tape fM_tape kM_tape iM_taped iM_size x_6644 x_6645 x_6646 x_6647 x_6648 x_6649 x_6650 iM_trouble rM_letters f_6652 kM_letters x_6651 iM_hasCourt rM_r rM_fresh fM_fresh kM_fresh rM_told rM_read fM_read kM_read rM_st rM_undone rM_kept iM_undos iM_images rM_fresher iM_fresherSize iM_scale iM_night rM_heardRow rM_cutRow iM_breaths iM_cutMany iM_allBreaths rM_trial rM_words iM_fewestBreaths iM_orderMany iM_orderSum iM_leastOrder rM_often iM_setMany iM_someOf iM_allOf iM_allWeight iM_enoughWeight iM_worthSum iM_firstRest iM_leastDrawn b_iM_taped b_iM_size b_x_6645 b_x_6648 b_x_6651 b_iM_hasCourt b_iM_undos b_iM_images b_iM_scale b_iM_breaths b_iM_cutMany (by first | assumption | exact (fun h9 => by have q0 := kc_0; have q1 := kc_1; omega)) (by assumption)) (cwV 0 hts (wd_V wd_490 wd_491 wd_492 wd_5 (wd_c wd_493)) rfl rfl rfl dv_yX7_throneLine_0 ⟨Nat.le_of_ble_eq_true rfl, Nat.le_of_ble_eq_true rfl⟩) ⟨Pw.fb, recvX7 hK hP (q0 := 0) rfl, fun U hU hW => Pw.to (hP.ms _ hMs) (hD.ms _ hMs) (hK.ms [true, true, true, true, false] rfl) hE hS hFc hU hW⟩ rfl rfl hl.1 rfl (lv_room (Nat.le_of_ble_eq_true rfl)) dX7_readLine_171 ⟨Nat.le_of_ble_eq_true rfl, Nat.le_of_ble_eq_true rfl⟩) hS (fun q _ h => hFc q h) hFc (fun u t H locs ht hvm hw hB hz1 hk1 hS => ?_)
                refine ex_10_9 hB (fun x_6703 x_6704 x_6705 x_6706 x_6707 x_6708 x_6709 x_6710 f_6711 f_6712 b_x_6704 b_x_6707 b_x_6710 e_x_6703_0 e_x_6703_1 e_x_6703_2 e_x_6703_3 e_x_6703_4 e_x_6703_5 hB => ?_)
                obtain ⟨hP, hD⟩ := Bw.goN (ws' := [(oc7 oM iM_thrown rM_tape iM_taped iM_size x_6703 x_6704 x_6705 x_6706 x_6707 x_6708 x_6709 iM_trouble rM_letters x_6710 iM_hasCourt rM_r rM_fresh rM_told rM_read rM_st rM_undone rM_kept iM_undos iM_images rM_fresher iM_fresherSize iM_scale iM_night rM_heardRow rM_cutRow iM_breaths iM_cutMany iM_allBreaths rM_trial rM_words iM_fewestBreaths iM_orderMany iM_orderSum iM_leastOrder rM_often iM_setMany iM_someOf iM_allOf iM_allWeight iM_enoughWeight iM_worthSum iM_firstRest iM_leastDrawn), (arI rM_tape kM_tape 900 fM_tape), (arI rM_letters kM_letters 8 f_6711), (arI rM_fresh kM_fresh 287 f_6712), (arI rM_read kM_read 90 fM_read), (arI rM_fresher kM_fresher 8 fM_fresher)]) hB rfl ht hP hD _ hMs hk1 hFc rfl
                clear hz1 hk1 hvm ht hB hMs
                have pl_f_6712 := e_x_6703_4.lins
                have hG := hG.trans (un10_eq e_x_6703_5)
                clear e_x_6644_4
                refine lv_goto (tgt := 233) hx hb dX7_readLine_174 (by decide) ?_
                exact wq_v hx hb hr 0 trivial (fun t ht hW => ⟨x_6703, x_6704, x_6705, x_6706, x_6707, x_6708, x_6709, x_6710, iM_fresherSize, f_6711, f_6712, fM_read, fM_fresher, b_x_6704, b_x_6707, b_x_6710, (by first | assumption | (have q0 := kc_0; have q1 := kc_1; omega)), e_x_6703_1, (by first | assumption | (have q0 := kc_0; have q1 := kc_1; omega)), (fun h9 => by have q0 := kc_0; have q1 := kc_1; have q9 := e_x_6703_3 (by omega); omega), (by first | assumption | (have q0 := kc_0; have q1 := kc_1; omega)), hG, Bw.to hP hD hK ht hW⟩) hS dX7_readLine_233 hlocks
            · skip
              have hG := hG.trans (if_neg c_6654)
              have gc_6654 := ti_ne c_6654 rfl kc_0
              replace gc_6654 : (-1) * x_6653.toInt + 1 ≤ 0 := by omega
              have h_6713 := e_x_6644_3 (by omega)
              clear e_x_6644_3
              refine lv_aload_n hx hb dX7_readLine_153 rfl (lv_at hl 0 rfl) ?_
              refine lv_iconst (v := 3) hx hb dX7_readLine_154 (by decide) ?_
              have hFc := va_freeI hD hS hA
              refine va_callv (va_runV (As := [.int 3]) (rest := []) ⟨hx, hb, hml, hown, hts⟩ (tX7_innerLine l dC dI _ oM iM_thrown rM_tape fM_tape kM_tape iM_taped iM_size x_6644 x_6645 x_6646 x_6647 x_6648 x_6649 x_6650 iM_trouble rM_letters f_6652 kM_letters x_6651 iM_hasCourt rM_r rM_fresh fM_fresh kM_fresh rM_told rM_read fM_read kM_read rM_st rM_undone rM_kept iM_undos iM_images rM_fresher fM_fresher kM_fresher iM_fresherSize iM_scale iM_night rM_heardRow rM_cutRow iM_breaths iM_cutMany iM_allBreaths rM_trial rM_words iM_fewestBreaths iM_orderMany iM_orderSum iM_leastOrder rM_often iM_setMany iM_someOf iM_allOf iM_allWeight iM_enoughWeight iM_worthSum iM_firstRest iM_leastDrawn 3 b_iM_taped b_iM_size b_x_6645 b_x_6648 b_x_6651 b_iM_hasCourt b_iM_undos b_iM_images b_iM_scale b_iM_breaths b_iM_cutMany (by first | assumption | exact (fun h9 => by have q0 := kc_0; have q1 := kc_1; omega)) (by assumption) ⟨(om_bf54f653 kc_3), (om_6eb7c803 kc_3)⟩ (by intro h9; have q0 := kc_0; have q1 := kc_1; have q2 := kc_2; have q3 := kc_3; omega) (by intro h9; have q0 := kc_0; have q1 := kc_1; have q2 := kc_2; have q3 := kc_3; omega)) (cwV 1 hts (wd_V wd_482 wd_483 wd_484 wd_5 (wd_c wd_485)) rfl rfl rfl dv_yX7_innerLine_1 ⟨Nat.le_of_ble_eq_true rfl, Nat.le_of_ble_eq_true rfl⟩) ⟨Pw.fb, recvX7 hK hP (q0 := 0) rfl, fun U hU hW => Pw.to hP hD hK hE hS hFc hU hW⟩ rfl rfl hl.1 rfl (lv_room (Nat.le_of_ble_eq_true rfl)) dX7_readLine_155 ⟨Nat.le_of_ble_eq_true rfl, Nat.le_of_ble_eq_true rfl⟩) hS (fun q _ h => hFc q h) hFc (fun u t H locs ht hvm hw hB hz1 hk1 hS => ?_)
              refine ex_13_9 hB (fun x_6714 x_6715 x_6716 x_6717 x_6718 x_6719 x_6720 x_6721 x_6722 f_6723 f_6724 f_6725 f_6726 b_x_6715 b_x_6718 b_x_6721 e_x_6714_0 e_x_6714_1 e_x_6714_2 e_x_6714_3 e_x_6714_4 e_x_6714_5 hB => ?_)
              obtain ⟨hP, hD⟩ := Bw.goA (ws' := [(oc7 oM iM_thrown rM_tape iM_taped iM_size x_6714 x_6715 x_6716 x_6717 x_6718 x_6719 x_6720 iM_trouble rM_letters x_6721 iM_hasCourt rM_r rM_fresh rM_told rM_read rM_st rM_undone rM_kept iM_undos iM_images rM_fresher x_6722 iM_scale iM_night rM_heardRow rM_cutRow iM_breaths iM_cutMany iM_allBreaths rM_trial rM_words iM_fewestBreaths iM_orderMany iM_orderSum iM_leastOrder rM_often iM_setMany iM_someOf iM_allOf iM_allWeight iM_enoughWeight iM_worthSum iM_firstRest iM_leastDrawn), (arI rM_tape kM_tape 900 fM_tape), (arI rM_letters kM_letters 8 f_6723), (arI rM_fresh kM_fresh 287 f_6724), (arI rM_read kM_read 90 f_6725), (arI rM_fresher kM_fresher 8 f_6726)]) hB rfl ht hFc rfl
              clear hz1 hk1 hvm ht hB
              have pl_f_6724 := e_x_6714_4.lins
              have hG := hG.trans (un13_eq e_x_6714_5)
              clear e_x_6644_1
              clear e_x_6644_4
              refine lv_goto (tgt := 233) hx hb dX7_readLine_158 (by decide) ?_
              exact wq_v hx hb hr 0 trivial (fun t ht hW => ⟨x_6714, x_6715, x_6716, x_6717, x_6718, x_6719, x_6720, x_6721, x_6722, f_6723, f_6724, f_6725, f_6726, b_x_6715, b_x_6718, b_x_6721, (by first | assumption | (have q0 := kc_0; have q1 := kc_1; omega)), e_x_6714_1, (by first | assumption | (have q0 := kc_0; have q1 := kc_1; omega)), (fun h9 => by have q0 := kc_0; have q1 := kc_1; have q9 := e_x_6714_3 (by omega); omega), (by first | assumption | (have q0 := kc_0; have q1 := kc_1; omega)), hG, Bw.to hP hD hK ht hW⟩) hS dX7_readLine_233 hlocks
          · skip
            have hG := hG.trans (if_neg c_6643)
            have gc_6643 := ti_nle c_6643 kc_8 rfl
            refine lv_aload_n hx hb dX7_readLine_131 rfl (lv_at hl 0 rfl) ?_
            refine va_get (D := (dC, dI)) (ci := 7) (v := .ref rM_fresh) (C := RX7) (T := TX7) (N := 48) hx hb hts inX7 hown hK hP 0 rfl rfl 16 (by decide) (hts _ wd_156) (fun _ h9 => h9) rfl dX7_readLine_132 ?_
            refine lv_bipush (v := 8) hx hb dX7_readLine_135 (by decide) ?_
            refine va_iald hx hb hK hP 3 2 rfl rfl (by unfold vp_in; decide) dX7_readLine_137 ?_
            refine lv_topi (fun x_6727 ex_6727 => ?_)
            have hG := hG.trans (lt_eq ex_6727)
            have cx_6727 : (fM_fresh 8).toInt = x_6727.toInt := congrArg Int32.toInt (show fM_fresh 8 = x_6727 from ex_6727.symm)
            refine lv_iconst (v := 2) hx hb dX7_readLine_138 (by decide) ?_
            refine vz_jgeX hx hb dX7_readLine_139 dX7_readLine_142 dX7_readLine_143 dX7_readLine_146 (fun x_6728 ex_6728 b_x_6728 j_x_6728 => ?_)
            have hG := hG.trans (lt_eq ex_6728)
            have j_x_6728 : 1 ≤ x_6728.toInt → x_6727.toInt < 2 := fun h9 => by have h8 := j_x_6728 h9; rw [kc_2] at h8; exact h8
            have hMs := ml_of hD [true, true, true, true, true, false] (wc := [(oc7 oM iM_thrown rM_tape iM_taped iM_size x_6630 x_6631 x_6632 x_6633 x_6634 x_6635 x_6636 iM_trouble rM_letters x_6637 iM_hasCourt rM_r rM_fresh rM_told rM_read rM_st rM_undone rM_kept iM_undos iM_images rM_fresher iM_fresherSize iM_scale iM_night rM_heardRow rM_cutRow iM_breaths iM_cutMany iM_allBreaths rM_trial rM_words iM_fewestBreaths iM_orderMany iM_orderSum iM_leastOrder rM_often iM_setMany iM_someOf iM_allOf iM_allWeight iM_enoughWeight iM_worthSum iM_firstRest iM_leastDrawn), (arI rM_tape kM_tape 900 fM_tape), (arI rM_letters kM_letters 8 f_6638), (arI rM_fresh kM_fresh 287 fM_fresh), (arI rM_read kM_read 90 fM_read)]) rfl
            have hFc := va_freeM hD hS hA _ hMs
            refine va_calli (va_runV (As := [.ref sa_6641, .int x_6728]) (rest := []) ⟨hx, hb, hml, hown, hts⟩ (tX7_begins l dC dI _ oM iM_thrown rM_tape fM_tape kM_tape iM_taped iM_size x_6630 x_6631 x_6632 x_6633 x_6634 x_6635 x_6636 iM_trouble rM_letters f_6638 kM_letters x_6637 iM_hasCourt rM_r rM_fresh fM_fresh kM_fresh rM_told rM_read fM_read kM_read rM_st rM_undone rM_kept iM_undos iM_images rM_fresher iM_fresherSize iM_scale iM_night rM_heardRow rM_cutRow iM_breaths iM_cutMany iM_allBreaths rM_trial rM_words iM_fewestBreaths iM_orderMany iM_orderSum iM_leastOrder rM_often iM_setMany iM_someOf iM_allOf iM_allWeight iM_enoughWeight iM_worthSum iM_firstRest iM_leastDrawn sa_6641 x_6728 vsa_6641 nsa_6641 fsa_6641 b_iM_taped b_iM_size b_x_6631 b_x_6634 b_x_6637 b_iM_hasCourt b_iM_undos b_iM_images b_iM_scale b_iM_breaths b_iM_cutMany (by first | assumption | exact (fun h9 => by have q0 := kc_0; have q1 := kc_1; omega)) (by assumption) (by first | assumption | (have q0 := kc_0; have q1 := kc_1; first | exact ⟨by omega, by omega⟩ | omega) | decide | (intro h; exact absurd h (by decide))) (by first | assumption | (have q0 := kc_0; have q1 := kc_1; first | exact ⟨by omega, by omega⟩ | omega) | decide | (intro h; exact absurd h (by decide)))) (cwV 2 hts (wd_V wd_450 wd_451 wd_452 wd_5 (wd_c wd_453)) rfl rfl rfl dv_yX7_begins_2 ⟨Nat.le_of_ble_eq_true rfl, Nat.le_of_ble_eq_true rfl⟩) ⟨Pq.fb, recvX7 hK hP (q0 := 0) rfl, fun U hU hW => Pq.to (hP.ms _ hMs) (hD.ms _ hMs) (hK.ms [true, true, true, true, false] rfl) hSsa_6641 hE hS hFc hU hW⟩ rfl rfl hl.1 rfl (lv_room (Nat.le_of_ble_eq_true rfl)) dX7_readLine_147 ⟨Nat.le_of_ble_eq_true rfl, Nat.le_of_ble_eq_true rfl⟩) hS (fun q _ h => hFc q h) hFc (fun r u t H locs ht hvm hw hB hz1 hk1 hS => ?_)
            have hru9 := hw.2
            have hw := hw.1
            refine ex_9_9 hB (fun x_6729 x_6730 x_6731 x_6732 x_6733 x_6734 x_6735 x_6736 f_6737 b_x_6730 b_x_6733 b_x_6736 e_x_6729_0 e_x_6729_1 e_x_6729_2 e_x_6729_3 e_x_6729_4 e_x_6729_5 hB => ?_)
            obtain ⟨hP, hD⟩ := Bw.goN (ws' := [(oc7 oM iM_thrown rM_tape iM_taped iM_size x_6729 x_6730 x_6731 x_6732 x_6733 x_6734 x_6735 iM_trouble rM_letters x_6736 iM_hasCourt rM_r rM_fresh rM_told rM_read rM_st rM_undone rM_kept iM_undos iM_images rM_fresher iM_fresherSize iM_scale iM_night rM_heardRow rM_cutRow iM_breaths iM_cutMany iM_allBreaths rM_trial rM_words iM_fewestBreaths iM_orderMany iM_orderSum iM_leastOrder rM_often iM_setMany iM_someOf iM_allOf iM_allWeight iM_enoughWeight iM_worthSum iM_firstRest iM_leastDrawn), (arI rM_tape kM_tape 900 fM_tape), (arI rM_letters kM_letters 8 f_6737), (arI rM_fresh kM_fresh 287 fM_fresh), (arI rM_read kM_read 90 fM_read), (arI rM_fresher kM_fresher 8 fM_fresher)]) hB rfl ht hP hD _ hMs hk1 hFc rfl
            clear hz1 hk1 hvm ht hB hMs
            rw [← hru9] at e_x_6729_5
            obtain ⟨x_6738, rfl⟩ : ∃ z, z = r := ⟨_, rfl⟩
            have hG := hG.trans (un10_eq e_x_6729_5)
            have bx_6738 := hw.1
            have dx_6738 := bz_ti bx_6738
            have lx_6738 := hw.2
            clear e_x_6630_1
            clear e_x_6630_4
            refine lv_if_eq (tgt := 161) hx hb dX7_readLine_150 (by decide) (fun c_6739 => ?_) (fun c_6739 => ?_)
            · skip
              have hG := hG.trans (if_pos c_6739)
              have gc_6739 := ti_eq c_6739 rfl kc_0
              clear e_x_6729_3
              refine lv_aload_n hx hb dX7_readLine_161 rfl (lv_at hl 0 rfl) ?_
              obtain ⟨sa_6740, vsa_6740, nsa_6740, fsa_6740, hnsa_6740, hnesa_6740, hfesa_6740, hRsa_6740, hSsa_6740⟩ := hE.2.2.1 (144, "throne", [116, 104, 114, 111, 110, 101]) (by decide)
              have hG := hG.trans (lt_eq hnesa_6740)
              have hG := hG.trans (lt_eq hfesa_6740)
              refine va_ldcS hx hb hown hRsa_6740 dX7_readLine_162 ?_
              have hMs := ml_of hD [true, false, true, false, false, false] (wc := [(oc7 oM iM_thrown rM_tape iM_taped iM_size x_6729 x_6730 x_6731 x_6732 x_6733 x_6734 x_6735 iM_trouble rM_letters x_6736 iM_hasCourt rM_r rM_fresh rM_told rM_read rM_st rM_undone rM_kept iM_undos iM_images rM_fresher iM_fresherSize iM_scale iM_night rM_heardRow rM_cutRow iM_breaths iM_cutMany iM_allBreaths rM_trial rM_words iM_fewestBreaths iM_orderMany iM_orderSum iM_leastOrder rM_often iM_setMany iM_someOf iM_allOf iM_allWeight iM_enoughWeight iM_worthSum iM_firstRest iM_leastDrawn), (arI rM_letters kM_letters 8 f_6737)]) rfl
              have hFc := va_freeM hD hS hA _ hMs
              refine va_calli (va_runV (As := [.ref sa_6740]) (rest := []) ⟨hx, hb, hml, hown, hts⟩ (tX7_isWord l dC dI _ oM iM_thrown rM_tape iM_taped iM_size x_6729 x_6730 x_6731 x_6732 x_6733 x_6734 x_6735 iM_trouble rM_letters f_6737 kM_letters x_6736 iM_hasCourt rM_r rM_fresh rM_told rM_read rM_st rM_undone rM_kept iM_undos iM_images rM_fresher iM_fresherSize iM_scale iM_night rM_heardRow rM_cutRow iM_breaths iM_cutMany iM_allBreaths rM_trial rM_words iM_fewestBreaths iM_orderMany iM_orderSum iM_leastOrder rM_often iM_setMany iM_someOf iM_allOf iM_allWeight iM_enoughWeight iM_worthSum iM_firstRest iM_leastDrawn sa_6740 vsa_6740 nsa_6740 fsa_6740 b_iM_taped b_iM_size b_x_6730 b_x_6733 b_x_6736 b_iM_hasCourt b_iM_undos b_iM_images b_iM_scale b_iM_breaths b_iM_cutMany (by first | assumption | exact (fun h9 => by have q0 := kc_0; have q1 := kc_1; omega)) (by first | assumption | (have q0 := kc_0; have q1 := kc_1; first | exact ⟨by omega, by omega⟩ | omega) | decide | (intro h; exact absurd h (by decide)))) (cwV 1 hts (wd_V wd_420 wd_421 wd_422 wd_5 (wd_c wd_423)) rfl rfl rfl dv_yX7_isWord_1 ⟨Nat.le_of_ble_eq_true rfl, Nat.le_of_ble_eq_true rfl⟩) ⟨Pq.fb, recvX7 hK hP (q0 := 0) rfl, fun U hU hW => Pq.to (hP.ms _ hMs) (hD.ms _ hMs) (hK.ms [false, true, false, false, false] rfl) hSsa_6740 hE hS hFc hU hW⟩ rfl rfl hl.1 rfl (lv_room (Nat.le_of_ble_eq_true rfl)) dX7_readLine_164 ⟨Nat.le_of_ble_eq_true rfl, Nat.le_of_ble_eq_true rfl⟩) hS (fun q _ h => hFc q h) hFc (fun r u t H locs ht hvm hw hB hz1 hk1 hS => ?_)
              have hru9 := hw.2
              have hw := hw.1
              obtain ⟨hP, hD⟩ := Bw.goN (ws' := [(oc7 oM iM_thrown rM_tape iM_taped iM_size x_6729 x_6730 x_6731 x_6732 x_6733 x_6734 x_6735 iM_trouble rM_letters x_6736 iM_hasCourt rM_r rM_fresh rM_told rM_read rM_st rM_undone rM_kept iM_undos iM_images rM_fresher iM_fresherSize iM_scale iM_night rM_heardRow rM_cutRow iM_breaths iM_cutMany iM_allBreaths rM_trial rM_words iM_fewestBreaths iM_orderMany iM_orderSum iM_leastOrder rM_often iM_setMany iM_someOf iM_allOf iM_allWeight iM_enoughWeight iM_worthSum iM_firstRest iM_leastDrawn), (arI rM_tape kM_tape 900 fM_tape), (arI rM_letters kM_letters 8 f_6737), (arI rM_fresh kM_fresh 287 fM_fresh), (arI rM_read kM_read 90 fM_read), (arI rM_fresher kM_fresher 8 fM_fresher)]) hB rfl ht hP hD _ hMs hk1 hFc rfl
              clear hz1 hk1 hvm ht hB hMs
              obtain ⟨x_6741, rfl⟩ : ∃ z, z = r := ⟨_, rfl⟩
              have hG := hG.trans (lt_eq hru9.symm)
              have bx_6741 := hw.1
              have dx_6741 := bz_ti bx_6741
              have lx_6741 := hw.2
              refine lv_if_eq (tgt := 177) hx hb dX7_readLine_167 (by decide) (fun c_6742 => ?_) (fun c_6742 => ?_)
              · skip
                have hG := hG.trans (if_pos c_6742)
                have gc_6742 := ti_eq c_6742 rfl kc_0
                clear lx_6741
                refine lv_aload_n hx hb dX7_readLine_177 rfl (lv_at hl 0 rfl) ?_
                obtain ⟨sa_6743, vsa_6743, nsa_6743, fsa_6743, hnsa_6743, hnesa_6743, hfesa_6743, hRsa_6743, hSsa_6743⟩ := hE.2.2.1 (146, "unsure", [117, 110, 115, 117, 114, 101]) (by decide)
                have hG := hG.trans (lt_eq hnesa_6743)
                have hG := hG.trans (lt_eq hfesa_6743)
                refine va_ldcS hx hb hown hRsa_6743 dX7_readLine_178 ?_
                refine lv_aload_n hx hb dX7_readLine_180 rfl (lv_at hl 0 rfl) ?_
                refine va_get (D := (dC, dI)) (ci := 7) (v := .ref rM_fresh) (C := RX7) (T := TX7) (N := 48) hx hb hts inX7 hown hK hP 0 rfl rfl 16 (by decide) (hts _ wd_156) (fun _ h9 => h9) rfl dX7_readLine_181 ?_
                refine lv_iconst (v := 3) hx hb dX7_readLine_184 (by decide) ?_
                refine va_iald hx hb hK hP 3 2 rfl rfl (by unfold vp_in; decide) dX7_readLine_185 ?_
                refine lv_topi (fun x_6744 ex_6744 => ?_)
                have hG := hG.trans (lt_eq ex_6744)
                have cx_6744 : (fM_fresh 3).toInt = x_6744.toInt := congrArg Int32.toInt (show fM_fresh 3 = x_6744 from ex_6744.symm)
                refine lv_iconst (v := 4) hx hb dX7_readLine_186 (by decide) ?_
                refine vz_jgeX hx hb dX7_readLine_187 dX7_readLine_190 dX7_readLine_191 dX7_readLine_194 (fun x_6745 ex_6745 b_x_6745 j_x_6745 => ?_)
                have hG := hG.trans (lt_eq ex_6745)
                have j_x_6745 : 1 ≤ x_6745.toInt → x_6744.toInt < 4 := fun h9 => by have h8 := j_x_6745 h9; rw [kc_4] at h8; exact h8
                have hMs := ml_of hD [true, true, true, true, true, false] (wc := [(oc7 oM iM_thrown rM_tape iM_taped iM_size x_6729 x_6730 x_6731 x_6732 x_6733 x_6734 x_6735 iM_trouble rM_letters x_6736 iM_hasCourt rM_r rM_fresh rM_told rM_read rM_st rM_undone rM_kept iM_undos iM_images rM_fresher iM_fresherSize iM_scale iM_night rM_heardRow rM_cutRow iM_breaths iM_cutMany iM_allBreaths rM_trial rM_words iM_fewestBreaths iM_orderMany iM_orderSum iM_leastOrder rM_often iM_setMany iM_someOf iM_allOf iM_allWeight iM_enoughWeight iM_worthSum iM_firstRest iM_leastDrawn), (arI rM_tape kM_tape 900 fM_tape), (arI rM_letters kM_letters 8 f_6737), (arI rM_fresh kM_fresh 287 fM_fresh), (arI rM_read kM_read 90 fM_read)]) rfl
                have hFc := va_freeM hD hS hA _ hMs
                refine va_calli (va_runV (As := [.ref sa_6743, .int x_6745]) (rest := []) ⟨hx, hb, hml, hown, hts⟩ (tX7_begins l dC dI _ oM iM_thrown rM_tape fM_tape kM_tape iM_taped iM_size x_6729 x_6730 x_6731 x_6732 x_6733 x_6734 x_6735 iM_trouble rM_letters f_6737 kM_letters x_6736 iM_hasCourt rM_r rM_fresh fM_fresh kM_fresh rM_told rM_read fM_read kM_read rM_st rM_undone rM_kept iM_undos iM_images rM_fresher iM_fresherSize iM_scale iM_night rM_heardRow rM_cutRow iM_breaths iM_cutMany iM_allBreaths rM_trial rM_words iM_fewestBreaths iM_orderMany iM_orderSum iM_leastOrder rM_often iM_setMany iM_someOf iM_allOf iM_allWeight iM_enoughWeight iM_worthSum iM_firstRest iM_leastDrawn sa_6743 x_6745 vsa_6743 nsa_6743 fsa_6743 b_iM_taped b_iM_size b_x_6730 b_x_6733 b_x_6736 b_iM_hasCourt b_iM_undos b_iM_images b_iM_scale b_iM_breaths b_iM_cutMany (by first | assumption | exact (fun h9 => by have q0 := kc_0; have q1 := kc_1; omega)) (by assumption) (by first | assumption | (have q0 := kc_0; have q1 := kc_1; first | exact ⟨by omega, by omega⟩ | omega) | decide | (intro h; exact absurd h (by decide))) (by first | assumption | (have q0 := kc_0; have q1 := kc_1; first | exact ⟨by omega, by omega⟩ | omega) | decide | (intro h; exact absurd h (by decide)))) (cwV 2 hts (wd_V wd_450 wd_451 wd_452 wd_5 (wd_c wd_453)) rfl rfl rfl dv_yX7_begins_2 ⟨Nat.le_of_ble_eq_true rfl, Nat.le_of_ble_eq_true rfl⟩) ⟨Pq.fb, recvX7 hK hP (q0 := 0) rfl, fun U hU hW => Pq.to (hP.ms _ hMs) (hD.ms _ hMs) (hK.ms [true, true, true, true, false] rfl) hSsa_6743 hE hS hFc hU hW⟩ rfl rfl hl.1 rfl (lv_room (Nat.le_of_ble_eq_true rfl)) dX7_readLine_195 ⟨Nat.le_of_ble_eq_true rfl, Nat.le_of_ble_eq_true rfl⟩) hS (fun q _ h => hFc q h) hFc (fun r u t H locs ht hvm hw hB hz1 hk1 hS => ?_)
                have hru9 := hw.2
                have hw := hw.1
                refine ex_9_9 hB (fun x_6746 x_6747 x_6748 x_6749 x_6750 x_6751 x_6752 x_6753 f_6754 b_x_6747 b_x_6750 b_x_6753 e_x_6746_0 e_x_6746_1 e_x_6746_2 e_x_6746_3 e_x_6746_4 e_x_6746_5 hB => ?_)
                obtain ⟨hP, hD⟩ := Bw.goN (ws' := [(oc7 oM iM_thrown rM_tape iM_taped iM_size x_6746 x_6747 x_6748 x_6749 x_6750 x_6751 x_6752 iM_trouble rM_letters x_6753 iM_hasCourt rM_r rM_fresh rM_told rM_read rM_st rM_undone rM_kept iM_undos iM_images rM_fresher iM_fresherSize iM_scale iM_night rM_heardRow rM_cutRow iM_breaths iM_cutMany iM_allBreaths rM_trial rM_words iM_fewestBreaths iM_orderMany iM_orderSum iM_leastOrder rM_often iM_setMany iM_someOf iM_allOf iM_allWeight iM_enoughWeight iM_worthSum iM_firstRest iM_leastDrawn), (arI rM_tape kM_tape 900 fM_tape), (arI rM_letters kM_letters 8 f_6754), (arI rM_fresh kM_fresh 287 fM_fresh), (arI rM_read kM_read 90 fM_read), (arI rM_fresher kM_fresher 8 fM_fresher)]) hB rfl ht hP hD _ hMs hk1 hFc rfl
                clear hz1 hk1 hvm ht hB hMs
                rw [← hru9] at e_x_6746_5
                obtain ⟨x_6755, rfl⟩ : ∃ z, z = r := ⟨_, rfl⟩
                have hG := hG.trans (un10_eq e_x_6746_5)
                have bx_6755 := hw.1
                have dx_6755 := bz_ti bx_6755
                have lx_6755 := hw.2
                clear e_x_6729_1
                clear e_x_6729_4
                refine lv_if_eq (tgt := 208) hx hb dX7_readLine_198 (by decide) (fun c_6756 => ?_) (fun c_6756 => ?_)
                · skip
                  have hG := hG.trans (if_pos c_6756)
                  have gc_6756 := ti_eq c_6756 rfl kc_0
                  clear e_x_6746_3
                  refine lv_aload_n hx hb dX7_readLine_208 rfl (lv_at hl 0 rfl) ?_
                  obtain ⟨sa_6757, vsa_6757, nsa_6757, fsa_6757, hnsa_6757, hnesa_6757, hfesa_6757, hRsa_6757, hSsa_6757⟩ := hE.2.2.1 (148, "said", [115, 97, 105, 100]) (by decide)
                  have hG := hG.trans (lt_eq hnesa_6757)
                  have hG := hG.trans (lt_eq hfesa_6757)
                  refine va_ldcS hx hb hown hRsa_6757 dX7_readLine_209 ?_
                  have hMs := ml_of hD [true, false, true, false, false, false] (wc := [(oc7 oM iM_thrown rM_tape iM_taped iM_size x_6746 x_6747 x_6748 x_6749 x_6750 x_6751 x_6752 iM_trouble rM_letters x_6753 iM_hasCourt rM_r rM_fresh rM_told rM_read rM_st rM_undone rM_kept iM_undos iM_images rM_fresher iM_fresherSize iM_scale iM_night rM_heardRow rM_cutRow iM_breaths iM_cutMany iM_allBreaths rM_trial rM_words iM_fewestBreaths iM_orderMany iM_orderSum iM_leastOrder rM_often iM_setMany iM_someOf iM_allOf iM_allWeight iM_enoughWeight iM_worthSum iM_firstRest iM_leastDrawn), (arI rM_letters kM_letters 8 f_6754)]) rfl
                  have hFc := va_freeM hD hS hA _ hMs
                  refine va_calli (va_runV (As := [.ref sa_6757]) (rest := []) ⟨hx, hb, hml, hown, hts⟩ (tX7_isWord l dC dI _ oM iM_thrown rM_tape iM_taped iM_size x_6746 x_6747 x_6748 x_6749 x_6750 x_6751 x_6752 iM_trouble rM_letters f_6754 kM_letters x_6753 iM_hasCourt rM_r rM_fresh rM_told rM_read rM_st rM_undone rM_kept iM_undos iM_images rM_fresher iM_fresherSize iM_scale iM_night rM_heardRow rM_cutRow iM_breaths iM_cutMany iM_allBreaths rM_trial rM_words iM_fewestBreaths iM_orderMany iM_orderSum iM_leastOrder rM_often iM_setMany iM_someOf iM_allOf iM_allWeight iM_enoughWeight iM_worthSum iM_firstRest iM_leastDrawn sa_6757 vsa_6757 nsa_6757 fsa_6757 b_iM_taped b_iM_size b_x_6747 b_x_6750 b_x_6753 b_iM_hasCourt b_iM_undos b_iM_images b_iM_scale b_iM_breaths b_iM_cutMany (by first | assumption | exact (fun h9 => by have q0 := kc_0; have q1 := kc_1; omega)) (by first | assumption | (have q0 := kc_0; have q1 := kc_1; first | exact ⟨by omega, by omega⟩ | omega) | decide | (intro h; exact absurd h (by decide)))) (cwV 1 hts (wd_V wd_420 wd_421 wd_422 wd_5 (wd_c wd_423)) rfl rfl rfl dv_yX7_isWord_1 ⟨Nat.le_of_ble_eq_true rfl, Nat.le_of_ble_eq_true rfl⟩) ⟨Pq.fb, recvX7 hK hP (q0 := 0) rfl, fun U hU hW => Pq.to (hP.ms _ hMs) (hD.ms _ hMs) (hK.ms [false, true, false, false, false] rfl) hSsa_6757 hE hS hFc hU hW⟩ rfl rfl hl.1 rfl (lv_room (Nat.le_of_ble_eq_true rfl)) dX7_readLine_211 ⟨Nat.le_of_ble_eq_true rfl, Nat.le_of_ble_eq_true rfl⟩) hS (fun q _ h => hFc q h) hFc (fun r u t H locs ht hvm hw hB hz1 hk1 hS => ?_)
                  have hru9 := hw.2
                  have hw := hw.1
                  obtain ⟨hP, hD⟩ := Bw.goN (ws' := [(oc7 oM iM_thrown rM_tape iM_taped iM_size x_6746 x_6747 x_6748 x_6749 x_6750 x_6751 x_6752 iM_trouble rM_letters x_6753 iM_hasCourt rM_r rM_fresh rM_told rM_read rM_st rM_undone rM_kept iM_undos iM_images rM_fresher iM_fresherSize iM_scale iM_night rM_heardRow rM_cutRow iM_breaths iM_cutMany iM_allBreaths rM_trial rM_words iM_fewestBreaths iM_orderMany iM_orderSum iM_leastOrder rM_often iM_setMany iM_someOf iM_allOf iM_allWeight iM_enoughWeight iM_worthSum iM_firstRest iM_leastDrawn), (arI rM_tape kM_tape 900 fM_tape), (arI rM_letters kM_letters 8 f_6754), (arI rM_fresh kM_fresh 287 fM_fresh), (arI rM_read kM_read 90 fM_read), (arI rM_fresher kM_fresher 8 fM_fresher)]) hB rfl ht hP hD _ hMs hk1 hFc rfl
                  clear hz1 hk1 hvm ht hB hMs
                  obtain ⟨x_6758, rfl⟩ : ∃ z, z = r := ⟨_, rfl⟩
                  have hG := hG.trans (lt_eq hru9.symm)
                  have bx_6758 := hw.1
                  have dx_6758 := bz_ti bx_6758
                  have lx_6758 := hw.2
                  refine lv_if_eq (tgt := 224) hx hb dX7_readLine_214 (by decide) (fun c_6759 => ?_) (fun c_6759 => ?_)
                  · skip
                    have hG := hG.trans (if_pos c_6759)
                    have gc_6759 := ti_eq c_6759 rfl kc_0
                    clear lx_6758
                    refine lv_aload_n hx hb dX7_readLine_224 rfl (lv_at hl 0 rfl) ?_
                    refine lv_iconst (v := 1) hx hb dX7_readLine_225 (by decide) ?_
                    refine lv_aload_n hx hb dX7_readLine_226 rfl (lv_at hl 0 rfl) ?_
                    refine va_get (D := (dC, dI)) (ci := 7) (v := .int x_6746) (C := RX7) (T := TX7) (N := 48) hx hb hts inX7 hown hK hP 0 rfl rfl 4 (by decide) (hts _ wd_384) (fun _ h9 => h9) rfl dX7_readLine_227 ?_
                    have hMs := ml_of hD [true, false, false, false, false, false] (wc := [(oc7 oM iM_thrown rM_tape iM_taped iM_size x_6746 x_6747 x_6748 x_6749 x_6750 x_6751 x_6752 iM_trouble rM_letters x_6753 iM_hasCourt rM_r rM_fresh rM_told rM_read rM_st rM_undone rM_kept iM_undos iM_images rM_fresher iM_fresherSize iM_scale iM_night rM_heardRow rM_cutRow iM_breaths iM_cutMany iM_allBreaths rM_trial rM_words iM_fewestBreaths iM_orderMany iM_orderSum iM_leastOrder rM_often iM_setMany iM_someOf iM_allOf iM_allWeight iM_enoughWeight iM_worthSum iM_firstRest iM_leastDrawn)]) rfl
                    have hFc := va_freeM hD hS hA _ hMs
                    refine va_callv (va_runV (As := [.int 1, .int x_6746]) (rest := []) ⟨hx, hb, hml, hown, hts⟩ (tX7_wrong l dC dI _ oM iM_thrown rM_tape iM_taped iM_size x_6746 x_6747 x_6748 x_6749 x_6750 x_6751 x_6752 iM_trouble rM_letters x_6753 iM_hasCourt rM_r rM_fresh rM_told rM_read rM_st rM_undone rM_kept iM_undos iM_images rM_fresher iM_fresherSize iM_scale iM_night rM_heardRow rM_cutRow iM_breaths iM_cutMany iM_allBreaths rM_trial rM_words iM_fewestBreaths iM_orderMany iM_orderSum iM_leastOrder rM_often iM_setMany iM_someOf iM_allOf iM_allWeight iM_enoughWeight iM_worthSum iM_firstRest iM_leastDrawn 1 x_6746 b_iM_taped b_iM_size b_x_6747 b_x_6750 b_x_6753 b_iM_hasCourt b_iM_undos b_iM_images b_iM_scale b_iM_breaths b_iM_cutMany (by first | assumption | exact (fun h9 => by have q0 := kc_0; have q1 := kc_1; omega))) (cwV 2 hts (wd_V wd_430 wd_431 wd_432 wd_5 (wd_c wd_433)) rfl rfl rfl dv_yX7_wrong_2 ⟨Nat.le_of_ble_eq_true rfl, Nat.le_of_ble_eq_true rfl⟩) ⟨Pw.fb, recvX7 hK hP (q0 := 0) rfl, fun U hU hW => Pw.to (hP.ms _ hMs) (hD.ms _ hMs) (hK.ms [false, false, false, false, false] rfl) hE hS hFc hU hW⟩ rfl rfl hl.1 rfl (lv_room (Nat.le_of_ble_eq_true rfl)) dX7_readLine_230 ⟨Nat.le_of_ble_eq_true rfl, Nat.le_of_ble_eq_true rfl⟩) hS (fun q _ h => hFc q h) hFc (fun u t H locs ht hvm hw hB hz1 hk1 hS => ?_)
                    refine ex_3_3 hB (fun x_6760 x_6761 x_6762 b_x_6762 e_x_6760_0 e_x_6760_1 hB => ?_)
                    obtain ⟨hP, hD⟩ := Bw.goN (ws' := [(oc7 oM iM_thrown rM_tape iM_taped iM_size x_6746 x_6747 x_6748 x_6749 x_6750 x_6760 x_6761 iM_trouble rM_letters x_6762 iM_hasCourt rM_r rM_fresh rM_told rM_read rM_st rM_undone rM_kept iM_undos iM_images rM_fresher iM_fresherSize iM_scale iM_night rM_heardRow rM_cutRow iM_breaths iM_cutMany iM_allBreaths rM_trial rM_words iM_fewestBreaths iM_orderMany iM_orderSum iM_leastOrder rM_often iM_setMany iM_someOf iM_allOf iM_allWeight iM_enoughWeight iM_worthSum iM_firstRest iM_leastDrawn), (arI rM_tape kM_tape 900 fM_tape), (arI rM_letters kM_letters 8 f_6754), (arI rM_fresh kM_fresh 287 fM_fresh), (arI rM_read kM_read 90 fM_read), (arI rM_fresher kM_fresher 8 fM_fresher)]) hB rfl ht hP hD _ hMs hk1 hFc rfl
                    clear hz1 hk1 hvm ht hB hMs
                    have hG := hG.trans (un3_eq e_x_6760_1)
                    exact wq_v hx hb hr 0 trivial (fun t ht hW => ⟨x_6746, x_6747, x_6748, x_6749, x_6750, x_6760, x_6761, x_6762, iM_fresherSize, f_6754, fM_fresh, fM_read, fM_fresher, b_x_6747, b_x_6750, b_x_6762, (by first | assumption | (have q0 := kc_0; have q1 := kc_1; omega)), e_x_6746_1, (by first | assumption | (have q0 := kc_0; have q1 := kc_1; omega)), (fun h9 => by have q0 := kc_0; have q1 := kc_1; omega), (by first | assumption | (have q0 := kc_0; have q1 := kc_1; omega)), hG, Bw.to hP hD hK ht hW⟩) hS dX7_readLine_233 hlocks
                  · skip
                    have hG := hG.trans (if_neg c_6759)
                    have gc_6759 := ti_ne c_6759 rfl kc_0
                    replace gc_6759 : (-1) * x_6758.toInt + 1 ≤ 0 := by omega
                    have h_6763 := lx_6758 (by omega)
                    clear lx_6758
                    have h_6764 := e_x_6746_1 (by omega)
                    clear e_x_6746_1
                    refine lv_aload_n hx hb dX7_readLine_217 rfl (lv_at hl 0 rfl) ?_
                    have hMs := ml_of hD [true, true, true, true, true, false] (wc := [(oc7 oM iM_thrown rM_tape iM_taped iM_size x_6746 x_6747 x_6748 x_6749 x_6750 x_6751 x_6752 iM_trouble rM_letters x_6753 iM_hasCourt rM_r rM_fresh rM_told rM_read rM_st rM_undone rM_kept iM_undos iM_images rM_fresher iM_fresherSize iM_scale iM_night rM_heardRow rM_cutRow iM_breaths iM_cutMany iM_allBreaths rM_trial rM_words iM_fewestBreaths iM_orderMany iM_orderSum iM_leastOrder rM_often iM_setMany iM_someOf iM_allOf iM_allWeight iM_enoughWeight iM_worthSum iM_firstRest iM_leastDrawn), (arI rM_tape kM_tape 900 fM_tape), (arI rM_letters kM_letters 8 f_6754), (arI rM_fresh kM_fresh 287 fM_fresh), (arI rM_read kM_read 90 fM_read)]) rfl
                    have hFc := va_freeM hD hS hA _ hMs
                    refine va_callv (va_runV (As := []) (rest := []) ⟨hx, hb, hml, hown, hts⟩ (tX7_saidLine l dC dI _ oM iM_thrown rM_tape fM_tape kM_tape iM_taped iM_size x_6746 x_6747 x_6748 x_6749 x_6750 x_6751 x_6752 iM_trouble rM_letters f_6754 kM_letters x_6753 iM_hasCourt rM_r rM_fresh fM_fresh kM_fresh rM_told rM_read fM_read kM_read rM_st rM_undone rM_kept iM_undos iM_images rM_fresher iM_fresherSize iM_scale iM_night rM_heardRow rM_cutRow iM_breaths iM_cutMany iM_allBreaths rM_trial rM_words iM_fewestBreaths iM_orderMany iM_orderSum iM_leastOrder rM_often iM_setMany iM_someOf iM_allOf iM_allWeight iM_enoughWeight iM_worthSum iM_firstRest iM_leastDrawn b_iM_taped b_iM_size b_x_6747 b_x_6750 b_x_6753 b_iM_hasCourt b_iM_undos b_iM_images b_iM_scale b_iM_breaths b_iM_cutMany (by first | assumption | exact (fun h9 => by have q0 := kc_0; have q1 := kc_1; omega)) (by assumption)) (cwV 0 hts (wd_V wd_498 wd_499 wd_500 wd_5 (wd_c wd_501)) rfl rfl rfl dv_yX7_saidLine_0 ⟨Nat.le_of_ble_eq_true rfl, Nat.le_of_ble_eq_true rfl⟩) ⟨Pw.fb, recvX7 hK hP (q0 := 0) rfl, fun U hU hW => Pw.to (hP.ms _ hMs) (hD.ms _ hMs) (hK.ms [true, true, true, true, false] rfl) hE hS hFc hU hW⟩ rfl rfl hl.1 rfl (lv_room (Nat.le_of_ble_eq_true rfl)) dX7_readLine_218 ⟨Nat.le_of_ble_eq_true rfl, Nat.le_of_ble_eq_true rfl⟩) hS (fun q _ h => hFc q h) hFc (fun u t H locs ht hvm hw hB hz1 hk1 hS => ?_)
                    refine ex_10_9 hB (fun x_6765 x_6766 x_6767 x_6768 x_6769 x_6770 x_6771 x_6772 f_6773 f_6774 b_x_6766 b_x_6769 b_x_6772 e_x_6765_0 e_x_6765_1 e_x_6765_2 e_x_6765_3 e_x_6765_4 e_x_6765_5 hB => ?_)
                    obtain ⟨hP, hD⟩ := Bw.goN (ws' := [(oc7 oM iM_thrown rM_tape iM_taped iM_size x_6765 x_6766 x_6767 x_6768 x_6769 x_6770 x_6771 iM_trouble rM_letters x_6772 iM_hasCourt rM_r rM_fresh rM_told rM_read rM_st rM_undone rM_kept iM_undos iM_images rM_fresher iM_fresherSize iM_scale iM_night rM_heardRow rM_cutRow iM_breaths iM_cutMany iM_allBreaths rM_trial rM_words iM_fewestBreaths iM_orderMany iM_orderSum iM_leastOrder rM_often iM_setMany iM_someOf iM_allOf iM_allWeight iM_enoughWeight iM_worthSum iM_firstRest iM_leastDrawn), (arI rM_tape kM_tape 900 fM_tape), (arI rM_letters kM_letters 8 f_6773), (arI rM_fresh kM_fresh 287 f_6774), (arI rM_read kM_read 90 fM_read), (arI rM_fresher kM_fresher 8 fM_fresher)]) hB rfl ht hP hD _ hMs hk1 hFc rfl
                    clear hz1 hk1 hvm ht hB hMs
                    have pl_f_6774 := e_x_6765_4.lins
                    have hG := hG.trans (un10_eq e_x_6765_5)
                    clear e_x_6746_4
                    refine lv_goto (tgt := 233) hx hb dX7_readLine_221 (by decide) ?_
                    exact wq_v hx hb hr 0 trivial (fun t ht hW => ⟨x_6765, x_6766, x_6767, x_6768, x_6769, x_6770, x_6771, x_6772, iM_fresherSize, f_6773, f_6774, fM_read, fM_fresher, b_x_6766, b_x_6769, b_x_6772, (by first | assumption | (have q0 := kc_0; have q1 := kc_1; omega)), e_x_6765_1, (by first | assumption | (have q0 := kc_0; have q1 := kc_1; omega)), (fun h9 => by have q0 := kc_0; have q1 := kc_1; have q9 := e_x_6765_3 (by omega); omega), (by first | assumption | (have q0 := kc_0; have q1 := kc_1; omega)), hG, Bw.to hP hD hK ht hW⟩) hS dX7_readLine_233 hlocks
                · skip
                  have hG := hG.trans (if_neg c_6756)
                  have gc_6756 := ti_ne c_6756 rfl kc_0
                  replace gc_6756 : (-1) * x_6755.toInt + 1 ≤ 0 := by omega
                  have h_6775 := e_x_6746_3 (by omega)
                  clear e_x_6746_3
                  refine lv_aload_n hx hb dX7_readLine_201 rfl (lv_at hl 0 rfl) ?_
                  have hMs := ml_of hD [true, true, true, true, true, false] (wc := [(oc7 oM iM_thrown rM_tape iM_taped iM_size x_6746 x_6747 x_6748 x_6749 x_6750 x_6751 x_6752 iM_trouble rM_letters x_6753 iM_hasCourt rM_r rM_fresh rM_told rM_read rM_st rM_undone rM_kept iM_undos iM_images rM_fresher iM_fresherSize iM_scale iM_night rM_heardRow rM_cutRow iM_breaths iM_cutMany iM_allBreaths rM_trial rM_words iM_fewestBreaths iM_orderMany iM_orderSum iM_leastOrder rM_often iM_setMany iM_someOf iM_allOf iM_allWeight iM_enoughWeight iM_worthSum iM_firstRest iM_leastDrawn), (arI rM_tape kM_tape 900 fM_tape), (arI rM_letters kM_letters 8 f_6754), (arI rM_fresh kM_fresh 287 fM_fresh), (arI rM_read kM_read 90 fM_read)]) rfl
                  have hFc := va_freeM hD hS hA _ hMs
                  refine va_callv (va_runV (As := []) (rest := []) ⟨hx, hb, hml, hown, hts⟩ (tX7_unsureLine l dC dI _ oM iM_thrown rM_tape fM_tape kM_tape iM_taped iM_size x_6746 x_6747 x_6748 x_6749 x_6750 x_6751 x_6752 iM_trouble rM_letters f_6754 kM_letters x_6753 iM_hasCourt rM_r rM_fresh fM_fresh kM_fresh rM_told rM_read fM_read kM_read rM_st rM_undone rM_kept iM_undos iM_images rM_fresher iM_fresherSize iM_scale iM_night rM_heardRow rM_cutRow iM_breaths iM_cutMany iM_allBreaths rM_trial rM_words iM_fewestBreaths iM_orderMany iM_orderSum iM_leastOrder rM_often iM_setMany iM_someOf iM_allOf iM_allWeight iM_enoughWeight iM_worthSum iM_firstRest iM_leastDrawn b_iM_taped b_iM_size b_x_6747 b_x_6750 b_x_6753 b_iM_hasCourt b_iM_undos b_iM_images b_iM_scale b_iM_breaths b_iM_cutMany (by first | assumption | exact (fun h9 => by have q0 := kc_0; have q1 := kc_1; omega)) (by assumption) (by intro h9; have q0 := kc_0; have q1 := kc_1; have q2 := kc_2; have q3 := kc_3; omega)) (cwV 0 hts (wd_V wd_494 wd_495 wd_496 wd_5 (wd_c wd_497)) rfl rfl rfl dv_yX7_unsureLine_0 ⟨Nat.le_of_ble_eq_true rfl, Nat.le_of_ble_eq_true rfl⟩) ⟨Pw.fb, recvX7 hK hP (q0 := 0) rfl, fun U hU hW => Pw.to (hP.ms _ hMs) (hD.ms _ hMs) (hK.ms [true, true, true, true, false] rfl) hE hS hFc hU hW⟩ rfl rfl hl.1 rfl (lv_room (Nat.le_of_ble_eq_true rfl)) dX7_readLine_202 ⟨Nat.le_of_ble_eq_true rfl, Nat.le_of_ble_eq_true rfl⟩) hS (fun q _ h => hFc q h) hFc (fun u t H locs ht hvm hw hB hz1 hk1 hS => ?_)
                  refine ex_10_9 hB (fun x_6776 x_6777 x_6778 x_6779 x_6780 x_6781 x_6782 x_6783 f_6784 f_6785 b_x_6777 b_x_6780 b_x_6783 e_x_6776_0 e_x_6776_1 e_x_6776_2 e_x_6776_3 e_x_6776_4 e_x_6776_5 hB => ?_)
                  obtain ⟨hP, hD⟩ := Bw.goN (ws' := [(oc7 oM iM_thrown rM_tape iM_taped iM_size x_6776 x_6777 x_6778 x_6779 x_6780 x_6781 x_6782 iM_trouble rM_letters x_6783 iM_hasCourt rM_r rM_fresh rM_told rM_read rM_st rM_undone rM_kept iM_undos iM_images rM_fresher iM_fresherSize iM_scale iM_night rM_heardRow rM_cutRow iM_breaths iM_cutMany iM_allBreaths rM_trial rM_words iM_fewestBreaths iM_orderMany iM_orderSum iM_leastOrder rM_often iM_setMany iM_someOf iM_allOf iM_allWeight iM_enoughWeight iM_worthSum iM_firstRest iM_leastDrawn), (arI rM_tape kM_tape 900 fM_tape), (arI rM_letters kM_letters 8 f_6784), (arI rM_fresh kM_fresh 287 f_6785), (arI rM_read kM_read 90 fM_read), (arI rM_fresher kM_fresher 8 fM_fresher)]) hB rfl ht hP hD _ hMs hk1 hFc rfl
                  clear hz1 hk1 hvm ht hB hMs
                  have pl_f_6785 := e_x_6776_4.lins
                  have hG := hG.trans (un10_eq e_x_6776_5)
                  clear e_x_6746_1
                  clear e_x_6746_4
                  refine lv_goto (tgt := 233) hx hb dX7_readLine_205 (by decide) ?_
                  exact wq_v hx hb hr 0 trivial (fun t ht hW => ⟨x_6776, x_6777, x_6778, x_6779, x_6780, x_6781, x_6782, x_6783, iM_fresherSize, f_6784, f_6785, fM_read, fM_fresher, b_x_6777, b_x_6780, b_x_6783, (by first | assumption | (have q0 := kc_0; have q1 := kc_1; omega)), e_x_6776_1, (by first | assumption | (have q0 := kc_0; have q1 := kc_1; omega)), (fun h9 => by have q0 := kc_0; have q1 := kc_1; have q9 := e_x_6776_3 (by omega); omega), (by first | assumption | (have q0 := kc_0; have q1 := kc_1; omega)), hG, Bw.to hP hD hK ht hW⟩) hS dX7_readLine_233 hlocks
              · skip
                have hG := hG.trans (if_neg c_6742)
                have gc_6742 := ti_ne c_6742 rfl kc_0
                replace gc_6742 : (-1) * x_6741.toInt + 1 ≤ 0 := by omega
                have h_6786 := lx_6741 (by omega)
                clear lx_6741
                have h_6787 := e_x_6729_1 (by omega)
                clear e_x_6729_1
                refine lv_aload_n hx hb dX7_readLine_170 rfl (lv_at hl 0 rfl) ?_
                have hMs := ml_of hD [true, true, true, true, true, false] (wc := [(oc7 oM iM_thrown rM_tape iM_taped iM_size x_6729 x_6730 x_6731 x_6732 x_6733 x_6734 x_6735 iM_trouble rM_letters x_6736 iM_hasCourt rM_r rM_fresh rM_told rM_read rM_st rM_undone rM_kept iM_undos iM_images rM_fresher iM_fresherSize iM_scale iM_night rM_heardRow rM_cutRow iM_breaths iM_cutMany iM_allBreaths rM_trial rM_words iM_fewestBreaths iM_orderMany iM_orderSum iM_leastOrder rM_often iM_setMany iM_someOf iM_allOf iM_allWeight iM_enoughWeight iM_worthSum iM_firstRest iM_leastDrawn), (arI rM_tape kM_tape 900 fM_tape), (arI rM_letters kM_letters 8 f_6737), (arI rM_fresh kM_fresh 287 fM_fresh), (arI rM_read kM_read 90 fM_read)]) rfl
                have hFc := va_freeM hD hS hA _ hMs
                refine va_callv (va_runV (As := []) (rest := []) ⟨hx, hb, hml, hown, hts⟩ (tX7_throneLine l dC dI _ oM iM_thrown rM_tape fM_tape kM_tape iM_taped iM_size x_6729 x_6730 x_6731 x_6732 x_6733 x_6734 x_6735 iM_trouble rM_letters f_6737 kM_letters x_6736 iM_hasCourt rM_r rM_fresh fM_fresh kM_fresh rM_told rM_read fM_read kM_read rM_st rM_undone rM_kept iM_undos iM_images rM_fresher iM_fresherSize iM_scale iM_night rM_heardRow rM_cutRow iM_breaths iM_cutMany iM_allBreaths rM_trial rM_words iM_fewestBreaths iM_orderMany iM_orderSum iM_leastOrder rM_often iM_setMany iM_someOf iM_allOf iM_allWeight iM_enoughWeight iM_worthSum iM_firstRest iM_leastDrawn b_iM_taped b_iM_size b_x_6730 b_x_6733 b_x_6736 b_iM_hasCourt b_iM_undos b_iM_images b_iM_scale b_iM_breaths b_iM_cutMany (by first | assumption | exact (fun h9 => by have q0 := kc_0; have q1 := kc_1; omega)) (by assumption)) (cwV 0 hts (wd_V wd_490 wd_491 wd_492 wd_5 (wd_c wd_493)) rfl rfl rfl dv_yX7_throneLine_0 ⟨Nat.le_of_ble_eq_true rfl, Nat.le_of_ble_eq_true rfl⟩) ⟨Pw.fb, recvX7 hK hP (q0 := 0) rfl, fun U hU hW => Pw.to (hP.ms _ hMs) (hD.ms _ hMs) (hK.ms [true, true, true, true, false] rfl) hE hS hFc hU hW⟩ rfl rfl hl.1 rfl (lv_room (Nat.le_of_ble_eq_true rfl)) dX7_readLine_171 ⟨Nat.le_of_ble_eq_true rfl, Nat.le_of_ble_eq_true rfl⟩) hS (fun q _ h => hFc q h) hFc (fun u t H locs ht hvm hw hB hz1 hk1 hS => ?_)
                refine ex_10_9 hB (fun x_6788 x_6789 x_6790 x_6791 x_6792 x_6793 x_6794 x_6795 f_6796 f_6797 b_x_6789 b_x_6792 b_x_6795 e_x_6788_0 e_x_6788_1 e_x_6788_2 e_x_6788_3 e_x_6788_4 e_x_6788_5 hB => ?_)
                obtain ⟨hP, hD⟩ := Bw.goN (ws' := [(oc7 oM iM_thrown rM_tape iM_taped iM_size x_6788 x_6789 x_6790 x_6791 x_6792 x_6793 x_6794 iM_trouble rM_letters x_6795 iM_hasCourt rM_r rM_fresh rM_told rM_read rM_st rM_undone rM_kept iM_undos iM_images rM_fresher iM_fresherSize iM_scale iM_night rM_heardRow rM_cutRow iM_breaths iM_cutMany iM_allBreaths rM_trial rM_words iM_fewestBreaths iM_orderMany iM_orderSum iM_leastOrder rM_often iM_setMany iM_someOf iM_allOf iM_allWeight iM_enoughWeight iM_worthSum iM_firstRest iM_leastDrawn), (arI rM_tape kM_tape 900 fM_tape), (arI rM_letters kM_letters 8 f_6796), (arI rM_fresh kM_fresh 287 f_6797), (arI rM_read kM_read 90 fM_read), (arI rM_fresher kM_fresher 8 fM_fresher)]) hB rfl ht hP hD _ hMs hk1 hFc rfl
                clear hz1 hk1 hvm ht hB hMs
                have pl_f_6797 := e_x_6788_4.lins
                have hG := hG.trans (un10_eq e_x_6788_5)
                clear e_x_6729_4
                refine lv_goto (tgt := 233) hx hb dX7_readLine_174 (by decide) ?_
                exact wq_v hx hb hr 0 trivial (fun t ht hW => ⟨x_6788, x_6789, x_6790, x_6791, x_6792, x_6793, x_6794, x_6795, iM_fresherSize, f_6796, f_6797, fM_read, fM_fresher, b_x_6789, b_x_6792, b_x_6795, (by first | assumption | (have q0 := kc_0; have q1 := kc_1; omega)), e_x_6788_1, (by first | assumption | (have q0 := kc_0; have q1 := kc_1; omega)), (fun h9 => by have q0 := kc_0; have q1 := kc_1; have q9 := e_x_6788_3 (by omega); omega), (by first | assumption | (have q0 := kc_0; have q1 := kc_1; omega)), hG, Bw.to hP hD hK ht hW⟩) hS dX7_readLine_233 hlocks
            · skip
              have hG := hG.trans (if_neg c_6739)
              have gc_6739 := ti_ne c_6739 rfl kc_0
              replace gc_6739 : (-1) * x_6738.toInt + 1 ≤ 0 := by omega
              have h_6798 := e_x_6729_3 (by omega)
              clear e_x_6729_3
              refine lv_aload_n hx hb dX7_readLine_153 rfl (lv_at hl 0 rfl) ?_
              refine lv_iconst (v := 3) hx hb dX7_readLine_154 (by decide) ?_
              have hFc := va_freeI hD hS hA
              refine va_callv (va_runV (As := [.int 3]) (rest := []) ⟨hx, hb, hml, hown, hts⟩ (tX7_innerLine l dC dI _ oM iM_thrown rM_tape fM_tape kM_tape iM_taped iM_size x_6729 x_6730 x_6731 x_6732 x_6733 x_6734 x_6735 iM_trouble rM_letters f_6737 kM_letters x_6736 iM_hasCourt rM_r rM_fresh fM_fresh kM_fresh rM_told rM_read fM_read kM_read rM_st rM_undone rM_kept iM_undos iM_images rM_fresher fM_fresher kM_fresher iM_fresherSize iM_scale iM_night rM_heardRow rM_cutRow iM_breaths iM_cutMany iM_allBreaths rM_trial rM_words iM_fewestBreaths iM_orderMany iM_orderSum iM_leastOrder rM_often iM_setMany iM_someOf iM_allOf iM_allWeight iM_enoughWeight iM_worthSum iM_firstRest iM_leastDrawn 3 b_iM_taped b_iM_size b_x_6730 b_x_6733 b_x_6736 b_iM_hasCourt b_iM_undos b_iM_images b_iM_scale b_iM_breaths b_iM_cutMany (by first | assumption | exact (fun h9 => by have q0 := kc_0; have q1 := kc_1; omega)) (by assumption) ⟨(om_bf54f653 kc_3), (om_6eb7c803 kc_3)⟩ (by intro h9; have q0 := kc_0; have q1 := kc_1; have q2 := kc_2; have q3 := kc_3; omega) (by intro h9; have q0 := kc_0; have q1 := kc_1; have q2 := kc_2; have q3 := kc_3; omega)) (cwV 1 hts (wd_V wd_482 wd_483 wd_484 wd_5 (wd_c wd_485)) rfl rfl rfl dv_yX7_innerLine_1 ⟨Nat.le_of_ble_eq_true rfl, Nat.le_of_ble_eq_true rfl⟩) ⟨Pw.fb, recvX7 hK hP (q0 := 0) rfl, fun U hU hW => Pw.to hP hD hK hE hS hFc hU hW⟩ rfl rfl hl.1 rfl (lv_room (Nat.le_of_ble_eq_true rfl)) dX7_readLine_155 ⟨Nat.le_of_ble_eq_true rfl, Nat.le_of_ble_eq_true rfl⟩) hS (fun q _ h => hFc q h) hFc (fun u t H locs ht hvm hw hB hz1 hk1 hS => ?_)
              refine ex_13_9 hB (fun x_6799 x_6800 x_6801 x_6802 x_6803 x_6804 x_6805 x_6806 x_6807 f_6808 f_6809 f_6810 f_6811 b_x_6800 b_x_6803 b_x_6806 e_x_6799_0 e_x_6799_1 e_x_6799_2 e_x_6799_3 e_x_6799_4 e_x_6799_5 hB => ?_)
              obtain ⟨hP, hD⟩ := Bw.goA (ws' := [(oc7 oM iM_thrown rM_tape iM_taped iM_size x_6799 x_6800 x_6801 x_6802 x_6803 x_6804 x_6805 iM_trouble rM_letters x_6806 iM_hasCourt rM_r rM_fresh rM_told rM_read rM_st rM_undone rM_kept iM_undos iM_images rM_fresher x_6807 iM_scale iM_night rM_heardRow rM_cutRow iM_breaths iM_cutMany iM_allBreaths rM_trial rM_words iM_fewestBreaths iM_orderMany iM_orderSum iM_leastOrder rM_often iM_setMany iM_someOf iM_allOf iM_allWeight iM_enoughWeight iM_worthSum iM_firstRest iM_leastDrawn), (arI rM_tape kM_tape 900 fM_tape), (arI rM_letters kM_letters 8 f_6808), (arI rM_fresh kM_fresh 287 f_6809), (arI rM_read kM_read 90 f_6810), (arI rM_fresher kM_fresher 8 f_6811)]) hB rfl ht hFc rfl
              clear hz1 hk1 hvm ht hB
              have pl_f_6809 := e_x_6799_4.lins
              have hG := hG.trans (un13_eq e_x_6799_5)
              clear e_x_6729_1
              clear e_x_6729_4
              refine lv_goto (tgt := 233) hx hb dX7_readLine_158 (by decide) ?_
              exact wq_v hx hb hr 0 trivial (fun t ht hW => ⟨x_6799, x_6800, x_6801, x_6802, x_6803, x_6804, x_6805, x_6806, x_6807, f_6808, f_6809, f_6810, f_6811, b_x_6800, b_x_6803, b_x_6806, (by first | assumption | (have q0 := kc_0; have q1 := kc_1; omega)), e_x_6799_1, (by first | assumption | (have q0 := kc_0; have q1 := kc_1; omega)), (fun h9 => by have q0 := kc_0; have q1 := kc_1; have q9 := e_x_6799_3 (by omega); omega), (by first | assumption | (have q0 := kc_0; have q1 := kc_1; omega)), hG, Bw.to hP hD hK ht hW⟩) hS dX7_readLine_233 hlocks
        · skip
          have hG := hG.trans (if_neg c_6640)
          have gc_6640 := ti_ne c_6640 rfl kc_0
          replace gc_6640 : (-1) * x_6639.toInt + 1 ≤ 0 := by omega
          have h_6812 := e_x_6630_3 (by omega)
          clear e_x_6630_3
          refine lv_aload_n hx hb dX7_readLine_108 rfl (lv_at hl 0 rfl) ?_
          refine lv_iconst (v := 2) hx hb dX7_readLine_109 (by decide) ?_
          have hFc := va_freeI hD hS hA
          refine va_callv (va_runV (As := [.int 2]) (rest := []) ⟨hx, hb, hml, hown, hts⟩ (tX7_innerLine l dC dI _ oM iM_thrown rM_tape fM_tape kM_tape iM_taped iM_size x_6630 x_6631 x_6632 x_6633 x_6634 x_6635 x_6636 iM_trouble rM_letters f_6638 kM_letters x_6637 iM_hasCourt rM_r rM_fresh fM_fresh kM_fresh rM_told rM_read fM_read kM_read rM_st rM_undone rM_kept iM_undos iM_images rM_fresher fM_fresher kM_fresher iM_fresherSize iM_scale iM_night rM_heardRow rM_cutRow iM_breaths iM_cutMany iM_allBreaths rM_trial rM_words iM_fewestBreaths iM_orderMany iM_orderSum iM_leastOrder rM_often iM_setMany iM_someOf iM_allOf iM_allWeight iM_enoughWeight iM_worthSum iM_firstRest iM_leastDrawn 2 b_iM_taped b_iM_size b_x_6631 b_x_6634 b_x_6637 b_iM_hasCourt b_iM_undos b_iM_images b_iM_scale b_iM_breaths b_iM_cutMany (by first | assumption | exact (fun h9 => by have q0 := kc_0; have q1 := kc_1; omega)) (by assumption) ⟨(om_1d8fb110 kc_2), (om_b5116cbd kc_2)⟩ (by intro h9; have q0 := kc_0; have q1 := kc_1; have q2 := kc_2; have q3 := kc_3; omega) (by intro h9; have q0 := kc_0; have q1 := kc_1; have q2 := kc_2; have q3 := kc_3; omega)) (cwV 1 hts (wd_V wd_482 wd_483 wd_484 wd_5 (wd_c wd_485)) rfl rfl rfl dv_yX7_innerLine_1 ⟨Nat.le_of_ble_eq_true rfl, Nat.le_of_ble_eq_true rfl⟩) ⟨Pw.fb, recvX7 hK hP (q0 := 0) rfl, fun U hU hW => Pw.to hP hD hK hE hS hFc hU hW⟩ rfl rfl hl.1 rfl (lv_room (Nat.le_of_ble_eq_true rfl)) dX7_readLine_110 ⟨Nat.le_of_ble_eq_true rfl, Nat.le_of_ble_eq_true rfl⟩) hS (fun q _ h => hFc q h) hFc (fun u t H locs ht hvm hw hB hz1 hk1 hS => ?_)
          refine ex_13_9 hB (fun x_6813 x_6814 x_6815 x_6816 x_6817 x_6818 x_6819 x_6820 x_6821 f_6822 f_6823 f_6824 f_6825 b_x_6814 b_x_6817 b_x_6820 e_x_6813_0 e_x_6813_1 e_x_6813_2 e_x_6813_3 e_x_6813_4 e_x_6813_5 hB => ?_)
          obtain ⟨hP, hD⟩ := Bw.goA (ws' := [(oc7 oM iM_thrown rM_tape iM_taped iM_size x_6813 x_6814 x_6815 x_6816 x_6817 x_6818 x_6819 iM_trouble rM_letters x_6820 iM_hasCourt rM_r rM_fresh rM_told rM_read rM_st rM_undone rM_kept iM_undos iM_images rM_fresher x_6821 iM_scale iM_night rM_heardRow rM_cutRow iM_breaths iM_cutMany iM_allBreaths rM_trial rM_words iM_fewestBreaths iM_orderMany iM_orderSum iM_leastOrder rM_often iM_setMany iM_someOf iM_allOf iM_allWeight iM_enoughWeight iM_worthSum iM_firstRest iM_leastDrawn), (arI rM_tape kM_tape 900 fM_tape), (arI rM_letters kM_letters 8 f_6822), (arI rM_fresh kM_fresh 287 f_6823), (arI rM_read kM_read 90 f_6824), (arI rM_fresher kM_fresher 8 f_6825)]) hB rfl ht hFc rfl
          clear hz1 hk1 hvm ht hB
          have pl_f_6823 := e_x_6813_4.lins
          have hG := hG.trans (un13_eq e_x_6813_5)
          clear e_x_6630_1
          clear e_x_6630_4
          refine lv_goto (tgt := 233) hx hb dX7_readLine_113 (by decide) ?_
          exact wq_v hx hb hr 0 trivial (fun t ht hW => ⟨x_6813, x_6814, x_6815, x_6816, x_6817, x_6818, x_6819, x_6820, x_6821, f_6822, f_6823, f_6824, f_6825, b_x_6814, b_x_6817, b_x_6820, (by first | assumption | (have q0 := kc_0; have q1 := kc_1; omega)), e_x_6813_1, (by first | assumption | (have q0 := kc_0; have q1 := kc_1; omega)), (fun h9 => by have q0 := kc_0; have q1 := kc_1; have q9 := e_x_6813_3 (by omega); omega), (by first | assumption | (have q0 := kc_0; have q1 := kc_1; omega)), hG, Bw.to hP hD hK ht hW⟩) hS dX7_readLine_233 hlocks
      · skip
        have hG := hG.trans (if_neg c_6626)
        have gc_6626 := ti_ne c_6626 rfl kc_0
        replace gc_6626 : (-1) * x_6625.toInt + 1 ≤ 0 := by omega
        have h_6826 := e_x_6616_3 (by omega)
        clear e_x_6616_3
        refine lv_aload_n hx hb dX7_readLine_74 rfl (lv_at hl 0 rfl) ?_
        refine lv_iconst (v := 1) hx hb dX7_readLine_75 (by decide) ?_
        have hFc := va_freeI hD hS hA
        refine va_callv (va_runV (As := [.int 1]) (rest := []) ⟨hx, hb, hml, hown, hts⟩ (tX7_innerLine l dC dI _ oM iM_thrown rM_tape fM_tape kM_tape iM_taped iM_size x_6616 x_6617 x_6618 x_6619 x_6620 x_6621 x_6622 iM_trouble rM_letters f_6624 kM_letters x_6623 iM_hasCourt rM_r rM_fresh fM_fresh kM_fresh rM_told rM_read fM_read kM_read rM_st rM_undone rM_kept iM_undos iM_images rM_fresher fM_fresher kM_fresher iM_fresherSize iM_scale iM_night rM_heardRow rM_cutRow iM_breaths iM_cutMany iM_allBreaths rM_trial rM_words iM_fewestBreaths iM_orderMany iM_orderSum iM_leastOrder rM_often iM_setMany iM_someOf iM_allOf iM_allWeight iM_enoughWeight iM_worthSum iM_firstRest iM_leastDrawn 1 b_iM_taped b_iM_size b_x_6617 b_x_6620 b_x_6623 b_iM_hasCourt b_iM_undos b_iM_images b_iM_scale b_iM_breaths b_iM_cutMany (by first | assumption | exact (fun h9 => by have q0 := kc_0; have q1 := kc_1; omega)) (by assumption) ⟨(om_c083232f kc_1), (om_a83fc49f kc_1)⟩ (by intro h9; have q0 := kc_0; have q1 := kc_1; have q2 := kc_2; have q3 := kc_3; omega) (by intro h9; have q0 := kc_0; have q1 := kc_1; have q2 := kc_2; have q3 := kc_3; omega)) (cwV 1 hts (wd_V wd_482 wd_483 wd_484 wd_5 (wd_c wd_485)) rfl rfl rfl dv_yX7_innerLine_1 ⟨Nat.le_of_ble_eq_true rfl, Nat.le_of_ble_eq_true rfl⟩) ⟨Pw.fb, recvX7 hK hP (q0 := 0) rfl, fun U hU hW => Pw.to hP hD hK hE hS hFc hU hW⟩ rfl rfl hl.1 rfl (lv_room (Nat.le_of_ble_eq_true rfl)) dX7_readLine_76 ⟨Nat.le_of_ble_eq_true rfl, Nat.le_of_ble_eq_true rfl⟩) hS (fun q _ h => hFc q h) hFc (fun u t H locs ht hvm hw hB hz1 hk1 hS => ?_)
        refine ex_13_9 hB (fun x_6827 x_6828 x_6829 x_6830 x_6831 x_6832 x_6833 x_6834 x_6835 f_6836 f_6837 f_6838 f_6839 b_x_6828 b_x_6831 b_x_6834 e_x_6827_0 e_x_6827_1 e_x_6827_2 e_x_6827_3 e_x_6827_4 e_x_6827_5 hB => ?_)
        obtain ⟨hP, hD⟩ := Bw.goA (ws' := [(oc7 oM iM_thrown rM_tape iM_taped iM_size x_6827 x_6828 x_6829 x_6830 x_6831 x_6832 x_6833 iM_trouble rM_letters x_6834 iM_hasCourt rM_r rM_fresh rM_told rM_read rM_st rM_undone rM_kept iM_undos iM_images rM_fresher x_6835 iM_scale iM_night rM_heardRow rM_cutRow iM_breaths iM_cutMany iM_allBreaths rM_trial rM_words iM_fewestBreaths iM_orderMany iM_orderSum iM_leastOrder rM_often iM_setMany iM_someOf iM_allOf iM_allWeight iM_enoughWeight iM_worthSum iM_firstRest iM_leastDrawn), (arI rM_tape kM_tape 900 fM_tape), (arI rM_letters kM_letters 8 f_6836), (arI rM_fresh kM_fresh 287 f_6837), (arI rM_read kM_read 90 f_6838), (arI rM_fresher kM_fresher 8 f_6839)]) hB rfl ht hFc rfl
        clear hz1 hk1 hvm ht hB
        have pl_f_6837 := e_x_6827_4.lins
        have hG := hG.trans (un13_eq e_x_6827_5)
        clear e_x_6616_1
        clear e_x_6616_4
        refine lv_goto (tgt := 233) hx hb dX7_readLine_79 (by decide) ?_
        exact wq_v hx hb hr 0 trivial (fun t ht hW => ⟨x_6827, x_6828, x_6829, x_6830, x_6831, x_6832, x_6833, x_6834, x_6835, f_6836, f_6837, f_6838, f_6839, b_x_6828, b_x_6831, b_x_6834, (by first | assumption | (have q0 := kc_0; have q1 := kc_1; omega)), e_x_6827_1, (by first | assumption | (have q0 := kc_0; have q1 := kc_1; omega)), (fun h9 => by have q0 := kc_0; have q1 := kc_1; have q9 := e_x_6827_3 (by omega); omega), (by first | assumption | (have q0 := kc_0; have q1 := kc_1; omega)), hG, Bw.to hP hD hK ht hW⟩) hS dX7_readLine_233 hlocks
    · skip
      have hG := hG.trans (if_neg c_6612)
      have gc_6612 := ti_ne c_6612 rfl kc_0
      replace gc_6612 : (-1) * x_6611.toInt + 1 ≤ 0 := by omega
      have h_6840 := e_x_6602_3 (by omega)
      clear e_x_6602_3
      refine lv_aload_n hx hb dX7_readLine_41 rfl (lv_at hl 0 rfl) ?_
      have hFc := va_freeI hD hS hA
      refine va_callv (va_runV (As := []) (rest := []) ⟨hx, hb, hml, hown, hts⟩ (tX7_wordLine l dC dI _ oM iM_thrown rM_tape fM_tape kM_tape iM_taped iM_size x_6602 x_6603 x_6604 x_6605 x_6606 x_6607 x_6608 iM_trouble rM_letters f_6610 kM_letters x_6609 iM_hasCourt rM_r rM_fresh fM_fresh kM_fresh rM_told rM_read fM_read kM_read rM_st rM_undone rM_kept iM_undos iM_images rM_fresher fM_fresher kM_fresher iM_fresherSize iM_scale iM_night rM_heardRow rM_cutRow iM_breaths iM_cutMany iM_allBreaths rM_trial rM_words iM_fewestBreaths iM_orderMany iM_orderSum iM_leastOrder rM_often iM_setMany iM_someOf iM_allOf iM_allWeight iM_enoughWeight iM_worthSum iM_firstRest iM_leastDrawn b_iM_taped b_iM_size b_x_6603 b_x_6606 b_x_6609 b_iM_hasCourt b_iM_undos b_iM_images b_iM_scale b_iM_breaths b_iM_cutMany (by first | assumption | exact (fun h9 => by have q0 := kc_0; have q1 := kc_1; omega)) (by assumption) (by intro h9; have q0 := kc_0; have q1 := kc_1; have q2 := kc_2; have q3 := kc_3; omega)) (cwV 0 hts (wd_V wd_458 wd_459 wd_460 wd_5 (wd_c wd_461)) rfl rfl rfl dv_yX7_wordLine_0 ⟨Nat.le_of_ble_eq_true rfl, Nat.le_of_ble_eq_true rfl⟩) ⟨Pw.fb, recvX7 hK hP (q0 := 0) rfl, fun U hU hW => Pw.to hP hD hK hE hS hFc hU hW⟩ rfl rfl hl.1 rfl (lv_room (Nat.le_of_ble_eq_true rfl)) dX7_readLine_42 ⟨Nat.le_of_ble_eq_true rfl, Nat.le_of_ble_eq_true rfl⟩) hS (fun q _ h => hFc q h) hFc (fun u t H locs ht hvm hw hB hz1 hk1 hS => ?_)
      refine ex_13_9 hB (fun x_6841 x_6842 x_6843 x_6844 x_6845 x_6846 x_6847 x_6848 x_6849 f_6850 f_6851 f_6852 f_6853 b_x_6842 b_x_6845 b_x_6848 e_x_6841_0 e_x_6841_1 e_x_6841_2 e_x_6841_3 e_x_6841_4 e_x_6841_5 hB => ?_)
      obtain ⟨hP, hD⟩ := Bw.goA (ws' := [(oc7 oM iM_thrown rM_tape iM_taped iM_size x_6841 x_6842 x_6843 x_6844 x_6845 x_6846 x_6847 iM_trouble rM_letters x_6848 iM_hasCourt rM_r rM_fresh rM_told rM_read rM_st rM_undone rM_kept iM_undos iM_images rM_fresher x_6849 iM_scale iM_night rM_heardRow rM_cutRow iM_breaths iM_cutMany iM_allBreaths rM_trial rM_words iM_fewestBreaths iM_orderMany iM_orderSum iM_leastOrder rM_often iM_setMany iM_someOf iM_allOf iM_allWeight iM_enoughWeight iM_worthSum iM_firstRest iM_leastDrawn), (arI rM_tape kM_tape 900 fM_tape), (arI rM_letters kM_letters 8 f_6850), (arI rM_fresh kM_fresh 287 f_6851), (arI rM_read kM_read 90 f_6852), (arI rM_fresher kM_fresher 8 f_6853)]) hB rfl ht hFc rfl
      clear hz1 hk1 hvm ht hB
      have pl_f_6851 := e_x_6841_4.lins
      have hG := hG.trans (un13_eq e_x_6841_5)
      clear e_x_6602_1
      clear e_x_6602_4
      refine lv_goto (tgt := 233) hx hb dX7_readLine_45 (by decide) ?_
      exact wq_v hx hb hr 0 trivial (fun t ht hW => ⟨x_6841, x_6842, x_6843, x_6844, x_6845, x_6846, x_6847, x_6848, x_6849, f_6850, f_6851, f_6852, f_6853, b_x_6842, b_x_6845, b_x_6848, (by first | assumption | (have q0 := kc_0; have q1 := kc_1; omega)), e_x_6841_1, (by first | assumption | (have q0 := kc_0; have q1 := kc_1; omega)), (fun h9 => by have q0 := kc_0; have q1 := kc_1; have q9 := e_x_6841_3 (by omega); omega), (by first | assumption | (have q0 := kc_0; have q1 := kc_1; omega)), hG, Bw.to hP hD hK ht hW⟩) hS dX7_readLine_233 hlocks
  · skip
    have hG := hG.trans (if_neg c_6598)
    have gc_6598 := ti_ne c_6598 rfl kc_0
    replace gc_6598 : (-1) * x_6597.toInt + 1 ≤ 0 := by omega
    have h_6854 := lx_6597 (by omega)
    clear lx_6597
    have h_6855 := r_T (by omega)
    clear r_T
    refine lv_aload_n hx hb dX7_readLine_9 rfl (lv_at hl 0 rfl) ?_
    have hMs := ml_of hD [true, true, true, true, true, false] (wc := [(oc7 oM iM_thrown rM_tape iM_taped iM_size iM_at iM_end iM_token iM_whole iM_nameSize iM_fault iM_place iM_trouble rM_letters iM_failed iM_hasCourt rM_r rM_fresh rM_told rM_read rM_st rM_undone rM_kept iM_undos iM_images rM_fresher iM_fresherSize iM_scale iM_night rM_heardRow rM_cutRow iM_breaths iM_cutMany iM_allBreaths rM_trial rM_words iM_fewestBreaths iM_orderMany iM_orderSum iM_leastOrder rM_often iM_setMany iM_someOf iM_allOf iM_allWeight iM_enoughWeight iM_worthSum iM_firstRest iM_leastDrawn), (arI rM_tape kM_tape 900 fM_tape), (arI rM_letters kM_letters 8 fM_letters), (arI rM_fresh kM_fresh 287 fM_fresh), (arI rM_read kM_read 90 fM_read)]) rfl
    have hFc := va_freeM hD hS hA _ hMs
    refine va_callv (va_runV (As := []) (rest := []) ⟨hx, hb, hml, hown, hts⟩ (tX7_courtLine l dC dI _ oM iM_thrown rM_tape fM_tape kM_tape iM_taped iM_size iM_at iM_end iM_token iM_whole iM_nameSize iM_fault iM_place iM_trouble rM_letters fM_letters kM_letters iM_failed iM_hasCourt rM_r rM_fresh fM_fresh kM_fresh rM_told rM_read fM_read kM_read rM_st rM_undone rM_kept iM_undos iM_images rM_fresher iM_fresherSize iM_scale iM_night rM_heardRow rM_cutRow iM_breaths iM_cutMany iM_allBreaths rM_trial rM_words iM_fewestBreaths iM_orderMany iM_orderSum iM_leastOrder rM_often iM_setMany iM_someOf iM_allOf iM_allWeight iM_enoughWeight iM_worthSum iM_firstRest iM_leastDrawn b_iM_taped b_iM_size b_iM_end b_iM_nameSize b_iM_failed b_iM_hasCourt b_iM_undos b_iM_images b_iM_scale b_iM_breaths b_iM_cutMany (by first | assumption | exact (fun h9 => by have q0 := kc_0; have q1 := kc_1; omega)) (by assumption)) (cwV 0 hts (wd_V wd_426 wd_427 wd_428 wd_5 (wd_c wd_429)) rfl rfl rfl dv_yX7_courtLine_0 ⟨Nat.le_of_ble_eq_true rfl, Nat.le_of_ble_eq_true rfl⟩) ⟨Pw.fb, recvX7 hK hP (q0 := 0) rfl, fun U hU hW => Pw.to (hP.ms _ hMs) (hD.ms _ hMs) (hK.ms [true, true, true, true, false] rfl) hE hS hFc hU hW⟩ rfl rfl hl.1 rfl (lv_room (Nat.le_of_ble_eq_true rfl)) dX7_readLine_10 ⟨Nat.le_of_ble_eq_true rfl, Nat.le_of_ble_eq_true rfl⟩) hS (fun q _ h => hFc q h) hFc (fun u t H locs ht hvm hw hB hz1 hk1 hS => ?_)
    refine ex_10_9 hB (fun x_6856 x_6857 x_6858 x_6859 x_6860 x_6861 x_6862 x_6863 f_6864 f_6865 b_x_6857 b_x_6860 b_x_6863 e_x_6856_0 e_x_6856_1 e_x_6856_2 e_x_6856_3 e_x_6856_4 e_x_6856_5 hB => ?_)
    obtain ⟨hP, hD⟩ := Bw.goN (ws' := [(oc7 oM iM_thrown rM_tape iM_taped iM_size x_6856 x_6857 x_6858 x_6859 x_6860 x_6861 x_6862 iM_trouble rM_letters x_6863 iM_hasCourt rM_r rM_fresh rM_told rM_read rM_st rM_undone rM_kept iM_undos iM_images rM_fresher iM_fresherSize iM_scale iM_night rM_heardRow rM_cutRow iM_breaths iM_cutMany iM_allBreaths rM_trial rM_words iM_fewestBreaths iM_orderMany iM_orderSum iM_leastOrder rM_often iM_setMany iM_someOf iM_allOf iM_allWeight iM_enoughWeight iM_worthSum iM_firstRest iM_leastDrawn), (arI rM_tape kM_tape 900 fM_tape), (arI rM_letters kM_letters 8 f_6864), (arI rM_fresh kM_fresh 287 f_6865), (arI rM_read kM_read 90 fM_read), (arI rM_fresher kM_fresher 8 fM_fresher)]) hB rfl ht hP hD _ hMs hk1 hFc rfl
    clear hz1 hk1 hvm ht hB hMs
    have pl_f_6865 := e_x_6856_4.lins
    have hG := hG.trans (un10_eq e_x_6856_5)
    refine lv_goto (tgt := 233) hx hb dX7_readLine_13 (by decide) ?_
    exact wq_v hx hb hr 0 trivial (fun t ht hW => ⟨x_6856, x_6857, x_6858, x_6859, x_6860, x_6861, x_6862, x_6863, iM_fresherSize, f_6864, f_6865, fM_read, fM_fresher, b_x_6857, b_x_6860, b_x_6863, (by first | assumption | (have q0 := kc_0; have q1 := kc_1; omega)), e_x_6856_1, (by first | assumption | (have q0 := kc_0; have q1 := kc_1; omega)), (fun h9 => by have q0 := kc_0; have q1 := kc_1; have q9 := e_x_6856_3 (by omega); omega), (by first | assumption | (have q0 := kc_0; have q1 := kc_1; omega)), hG, Bw.to hP hD hK ht hW⟩) hS dX7_readLine_233 hlocks
