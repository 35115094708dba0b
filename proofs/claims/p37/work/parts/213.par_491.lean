set_option maxHeartbeats 4000000 in
set_option maxRecDepth 100000 in
theorem tX7_innerLine (l : Launch) (dC : Nat → ClassId) (dI : Nat → Nat → Nat) (sz : Nat) (oM : Nat) (iM_thrown : Int32) (rM_tape : Nat) (fM_tape : Nat → Int32) (kM_tape : ClassId) (iM_taped : Int32) (iM_size : Int32) (iM_at : Int32) (iM_end : Int32) (iM_token : Int32) (iM_whole : Int32) (iM_nameSize : Int32) (iM_fault : Int32) (iM_place : Int32) (iM_trouble : Int32) (rM_letters : Nat) (fM_letters : Nat → Int32) (kM_letters : ClassId) (iM_failed : Int32) (iM_hasCourt : Int32) (rM_r : Nat) (rM_fresh : Nat) (fM_fresh : Nat → Int32) (kM_fresh : ClassId) (rM_told : Nat) (rM_read : Nat) (fM_read : Nat → Int32) (kM_read : ClassId) (rM_st : Nat) (rM_undone : Nat) (rM_kept : Nat) (iM_undos : Int32) (iM_images : Int32) (rM_fresher : Nat) (fM_fresher : Nat → Int32) (kM_fresher : ClassId) (iM_fresherSize : Int32) (iM_scale : Int32) (iM_night : Int32) (rM_heardRow : Nat) (rM_cutRow : Nat) (iM_breaths : Int32) (iM_cutMany : Int32) (iM_allBreaths : Int32) (rM_trial : Nat) (rM_words : Nat) (iM_fewestBreaths : Int32) (iM_orderMany : Int32) (iM_orderSum : Int32) (iM_leastOrder : Int32) (rM_often : Nat) (iM_setMany : Int32) (iM_someOf : Int32) (iM_allOf : Int32) (iM_allWeight : Int64) (iM_enoughWeight : Int64) (iM_worthSum : Int64) (iM_firstRest : Int32) (iM_leastDrawn : Int32) (p0 : Int32) (b_iM_taped : 0 ≤ iM_taped.toInt ∧ iM_taped.toInt ≤ 900) (b_iM_size : 0 ≤ iM_size.toInt ∧ iM_size.toInt ≤ 900) (b_iM_end : 0 ≤ iM_end.toInt ∧ iM_end.toInt ≤ 900) (b_iM_nameSize : 0 ≤ iM_nameSize.toInt ∧ iM_nameSize.toInt ≤ 900) (b_iM_failed : 0 ≤ iM_failed.toInt ∧ iM_failed.toInt ≤ 1) (b_iM_hasCourt : 0 ≤ iM_hasCourt.toInt ∧ iM_hasCourt.toInt ≤ 1) (b_iM_undos : 0 ≤ iM_undos.toInt ∧ iM_undos.toInt ≤ 16) (b_iM_images : 0 ≤ iM_images.toInt ∧ iM_images.toInt ≤ 3) (b_iM_scale : 1 ≤ iM_scale.toInt ∧ iM_scale.toInt ≤ 1296) (b_iM_breaths : 0 ≤ iM_breaths.toInt ∧ iM_breaths.toInt ≤ 399) (b_iM_cutMany : 0 ≤ iM_cutMany.toInt ∧ iM_cutMany.toInt ≤ 399) (r_T : ImpP (iM_token.toInt = 2) (iM_nameSize.toInt ≤ 8)) (r_P : POk fM_fresh fM_read) (hp0 : 1 ≤ p0.toInt ∧ p0.toInt ≤ 3) (hil : ImpP (iM_failed.toInt ≤ 0) ((fM_fresh 7).toInt ≤ 7)) (hic : ImpP (iM_failed.toInt ≤ 0 ∧ p0.toInt = 3) ((fM_fresh 8).toInt ≤ 1)) : Met l yX7_innerLine (Cond.code yX7_innerLine cX7_innerLine 7 none :: wG) ({ frames := 7, cells := 0, slots := 0, locals := 175 }) (va_Pc [.ref oM, .int p0] (Pw dC dI sz [(oc7 oM iM_thrown rM_tape iM_taped iM_size iM_at iM_end iM_token iM_whole iM_nameSize iM_fault iM_place iM_trouble rM_letters iM_failed iM_hasCourt rM_r rM_fresh rM_told rM_read rM_st rM_undone rM_kept iM_undos iM_images rM_fresher iM_fresherSize iM_scale iM_night rM_heardRow rM_cutRow iM_breaths iM_cutMany iM_allBreaths rM_trial rM_words iM_fewestBreaths iM_orderMany iM_orderSum iM_leastOrder rM_often iM_setMany iM_someOf iM_allOf iM_allWeight iM_enoughWeight iM_worthSum iM_firstRest iM_leastDrawn), (arI rM_tape kM_tape 900 fM_tape), (arI rM_letters kM_letters 8 fM_letters), (arI rM_fresh kM_fresh 287 fM_fresh), (arI rM_read kM_read 90 fM_read), (arI rM_fresher kM_fresher 8 fM_fresher)] [(kM_tape, .int), (kM_letters, .int), (kM_fresh, .int), (kM_read, .int), (kM_fresher, .int)])) (va_Qv (fun (_ : Nat) => True) (fun (_ : Nat) (t : State) => ∃ (niM_at : Int32) (niM_end : Int32) (niM_token : Int32) (niM_whole : Int32) (niM_nameSize : Int32) (niM_fault : Int32) (niM_place : Int32) (niM_failed : Int32) (niM_fresherSize : Int32) (nfM_letters : Nat → Int32) (nfM_fresh : Nat → Int32) (nfM_read : Nat → Int32) (nfM_fresher : Nat → Int32), (0 ≤ niM_end.toInt ∧ niM_end.toInt ≤ 900) ∧ (0 ≤ niM_nameSize.toInt ∧ niM_nameSize.toInt ≤ 900) ∧ (0 ≤ niM_failed.toInt ∧ niM_failed.toInt ≤ 1) ∧ (iM_end.toInt ≤ niM_end.toInt) ∧ (ImpP (niM_token.toInt = 2) (niM_nameSize.toInt ≤ 8)) ∧ (iM_failed.toInt ≤ niM_failed.toInt) ∧ (ImpP (niM_failed.toInt ≤ 0 ∧ niM_token.toInt = 59 ) (iM_end.toInt + 1 ≤ niM_end.toInt)) ∧ (POk nfM_fresh nfM_read) ∧ (PX7_innerLine fM_tape iM_size iM_at iM_end iM_token iM_whole iM_nameSize iM_fault iM_place fM_letters iM_failed fM_fresh fM_read fM_fresher iM_fresherSize p0 = (niM_at, niM_end, niM_token, niM_whole, niM_nameSize, niM_fault, niM_place, niM_failed, niM_fresherSize, nfM_letters, nfM_fresh, nfM_read, nfM_fresher)) ∧ Bw dC dI (va_A [(oc7 oM iM_thrown rM_tape iM_taped iM_size iM_at iM_end iM_token iM_whole iM_nameSize iM_fault iM_place iM_trouble rM_letters iM_failed iM_hasCourt rM_r rM_fresh rM_told rM_read rM_st rM_undone rM_kept iM_undos iM_images rM_fresher iM_fresherSize iM_scale iM_night rM_heardRow rM_cutRow iM_breaths iM_cutMany iM_allBreaths rM_trial rM_words iM_fewestBreaths iM_orderMany iM_orderSum iM_leastOrder rM_often iM_setMany iM_someOf iM_allOf iM_allWeight iM_enoughWeight iM_worthSum iM_firstRest iM_leastDrawn), (arI rM_tape kM_tape 900 fM_tape), (arI rM_letters kM_letters 8 fM_letters), (arI rM_fresh kM_fresh 287 fM_fresh), (arI rM_read kM_read 90 fM_read), (arI rM_fresher kM_fresher 8 fM_fresher)] sz) [(oc7 oM iM_thrown rM_tape iM_taped iM_size niM_at niM_end niM_token niM_whole niM_nameSize niM_fault niM_place iM_trouble rM_letters niM_failed iM_hasCourt rM_r rM_fresh rM_told rM_read rM_st rM_undone rM_kept iM_undos iM_images rM_fresher niM_fresherSize iM_scale iM_night rM_heardRow rM_cutRow iM_breaths iM_cutMany iM_allBreaths rM_trial rM_words iM_fewestBreaths iM_orderMany iM_orderSum iM_leastOrder rM_often iM_setMany iM_someOf iM_allOf iM_allWeight iM_enoughWeight iM_worthSum iM_firstRest iM_leastDrawn), (arI rM_tape kM_tape 900 fM_tape), (arI rM_letters kM_letters 8 nfM_letters), (arI rM_fresh kM_fresh 287 nfM_fresh), (arI rM_read kM_read 90 nfM_read), (arI rM_fresher kM_fresher 8 nfM_fresher)] [(kM_tape, .int), (kM_letters, .int), (kM_fresh, .int), (kM_read, .int), (kM_fresher, .int)] t) (va_A [(oc7 oM iM_thrown rM_tape iM_taped iM_size iM_at iM_end iM_token iM_whole iM_nameSize iM_fault iM_place iM_trouble rM_letters iM_failed iM_hasCourt rM_r rM_fresh rM_told rM_read rM_st rM_undone rM_kept iM_undos iM_images rM_fresher iM_fresherSize iM_scale iM_night rM_heardRow rM_cutRow iM_breaths iM_cutMany iM_allBreaths rM_trial rM_words iM_fewestBreaths iM_orderMany iM_orderSum iM_leastOrder rM_often iM_setMany iM_someOf iM_allOf iM_allWeight iM_enoughWeight iM_worthSum iM_firstRest iM_leastDrawn), (arI rM_tape kM_tape 900 fM_tape), (arI rM_letters kM_letters 8 fM_letters), (arI rM_fresh kM_fresh 287 fM_fresh), (arI rM_read kM_read 90 fM_read), (arI rM_fresher kM_fresher 8 fM_fresher)] sz)) 0 0 (va_A [(oc7 oM iM_thrown rM_tape iM_taped iM_size iM_at iM_end iM_token iM_whole iM_nameSize iM_fault iM_place iM_trouble rM_letters iM_failed iM_hasCourt rM_r rM_fresh rM_told rM_read rM_st rM_undone rM_kept iM_undos iM_images rM_fresher iM_fresherSize iM_scale iM_night rM_heardRow rM_cutRow iM_breaths iM_cutMany iM_allBreaths rM_trial rM_words iM_fewestBreaths iM_orderMany iM_orderSum iM_leastOrder rM_often iM_setMany iM_someOf iM_allOf iM_allWeight iM_enoughWeight iM_worthSum iM_firstRest iM_leastDrawn), (arI rM_tape kM_tape 900 fM_tape), (arI rM_letters kM_letters 8 fM_letters), (arI rM_fresh kM_fresh 287 fM_fresh), (arI rM_read kM_read 90 fM_read), (arI rM_fresher kM_fresher 8 fM_fresher)] sz) := by
  refine Met.ofW (cc := cX7_innerLine) (maxL := 7) (ret := none) pnX7 rfl ?_
  intro p e s m args below meth c s₁ B hml hv
  obtain ⟨rfl, hsz, hP, hK, hD0, hE⟩ := hv
  have hx := B.exec
  have hb := B.bytes
  have hr := B.returns
  have hts : ∀ w ∈ wG, w.before ([.ref oM, .int p0] : List Value).toArray s = true := fun w h => atoms_spec (ws := Cond.code yX7_innerLine cX7_innerLine 7 none :: wG) B.pre w (List.mem_cons_of_mem _ h)
  have hown : s.vm.findClass RX7 = some m.cls := own_of B.named rfl
  have hlocks := B.notSynchronized
  subst hsz
  have hD := hD0.self (sz := s.heap.size)
  generalize hAe : va_A [(oc7 oM iM_thrown rM_tape iM_taped iM_size iM_at iM_end iM_token iM_whole iM_nameSize iM_fault iM_place iM_trouble rM_letters iM_failed iM_hasCourt rM_r rM_fresh rM_told rM_read rM_st rM_undone rM_kept iM_undos iM_images rM_fresher iM_fresherSize iM_scale iM_night rM_heardRow rM_cutRow iM_breaths iM_cutMany iM_allBreaths rM_trial rM_words iM_fewestBreaths iM_orderMany iM_orderSum iM_leastOrder rM_often iM_setMany iM_someOf iM_allOf iM_allWeight iM_enoughWeight iM_worthSum iM_firstRest iM_leastDrawn), (arI rM_tape kM_tape 900 fM_tape), (arI rM_letters kM_letters 8 fM_letters), (arI rM_fresh kM_fresh 287 fM_fresh), (arI rM_read kM_read 90 fM_read), (arI rM_fresher kM_fresher 8 fM_fresher)] s.heap.size = A at hD hE ⊢
  have hA : ∀ q : Nat, s.heap.size ≤ q → A q := fun q h => by rw [← hAe]; exact Or.inr h
  have hS : va_S A s.heap s.heap [] := va_S.rf
  have hl := lv_entry ([.ref oM, .int p0]) (n := 7) (Nat.le_of_ble_eq_true rfl)
  rw [lg_entry_eq]
  generalize (lg_sl ([.ref oM, .int p0]) ++ List.replicate (7 - (lg_sl ([.ref oM, .int p0])).length) Slot.unset).toArray = ls at hl ⊢
  have hl : lv_has ls 7 [(0, .ref oM), (1, .int p0)] := hl
  have hG := PX7_innerLine_eq fM_tape iM_size iM_at iM_end iM_token iM_whole iM_nameSize iM_fault iM_place fM_letters iM_failed fM_fresh fM_read fM_fresher iM_fresherSize p0
  have pl_fM_fresh := r_P.lins
  refine lv_aload_n hx hb dX7_innerLine_0 rfl (lv_at hl 0 rfl) ?_
  refine va_get (D := (dC, dI)) (ci := 7) (v := .int iM_failed) (C := RX7) (T := TX7) (N := 48) hx hb hts inX7 hown hK hP 0 rfl rfl 13 (by decide) (hts _ wd_380) (fun _ h9 => h9) rfl dX7_innerLine_1 ?_
  refine lv_if_eq (tgt := 8) hx hb dX7_innerLine_4 (by decide) (fun c_6163 => ?_) (fun c_6163 => ?_)
  · skip
    have hG := hG.trans (if_pos c_6163)
    have gc_6163 := ti_eq c_6163 rfl kc_0
    have h_6164 : (fM_fresh 7).toInt ≤ 7 := hil (om_02e9bb08 gc_6163)
    clear hil
    refine lv_aload_n hx hb dX7_innerLine_8 rfl (lv_at hl 0 rfl) ?_
    have hFc := va_freeI hD hS hA
    refine va_callv (va_runV (As := []) (rest := []) ⟨hx, hb, hml, hown, hts⟩ (tX7_newName l dC dI _ oM iM_thrown rM_tape fM_tape kM_tape iM_taped iM_size iM_at iM_end iM_token iM_whole iM_nameSize iM_fault iM_place iM_trouble rM_letters fM_letters kM_letters iM_failed iM_hasCourt rM_r rM_fresh fM_fresh kM_fresh rM_told rM_read fM_read kM_read rM_st rM_undone rM_kept iM_undos iM_images rM_fresher fM_fresher kM_fresher iM_fresherSize iM_scale iM_night rM_heardRow rM_cutRow iM_breaths iM_cutMany iM_allBreaths rM_trial rM_words iM_fewestBreaths iM_orderMany iM_orderSum iM_leastOrder rM_often iM_setMany iM_someOf iM_allOf iM_allWeight iM_enoughWeight iM_worthSum iM_firstRest iM_leastDrawn b_iM_taped b_iM_size b_iM_end b_iM_nameSize b_iM_failed b_iM_hasCourt b_iM_undos b_iM_images b_iM_scale b_iM_breaths b_iM_cutMany r_T r_P) (cwV 0 hts (wd_V wd_462 wd_463 wd_464 wd_5 (wd_c wd_465)) rfl rfl rfl dv_yX7_newName_0 ⟨Nat.le_of_ble_eq_true rfl, Nat.le_of_ble_eq_true rfl⟩) ⟨Pw.fb, recvX7 hK hP (q0 := 0) rfl, fun U hU hW => Pw.to hP hD hK hE hS hFc hU hW⟩ rfl rfl hl.1 rfl (lv_room (Nat.le_of_ble_eq_true rfl)) dX7_innerLine_9 ⟨Nat.le_of_ble_eq_true rfl, Nat.le_of_ble_eq_true rfl⟩) hS (fun q _ h => hFc q h) hFc (fun u t H locs ht hvm hw hB hz1 hk1 hS => ?_)
    refine ex_11_8 hB (fun x_6165 x_6166 x_6167 x_6168 x_6169 x_6170 x_6171 x_6172 x_6173 f_6174 f_6175 b_x_6166 b_x_6169 b_x_6172 e_x_6165_0 e_x_6165_1 e_x_6165_2 e_x_6165_3 e_x_6165_4 hB => ?_)
    obtain ⟨hP, hD⟩ := Bw.goA (ws' := [(oc7 oM iM_thrown rM_tape iM_taped iM_size x_6165 x_6166 x_6167 x_6168 x_6169 x_6170 x_6171 iM_trouble rM_letters x_6172 iM_hasCourt rM_r rM_fresh rM_told rM_read rM_st rM_undone rM_kept iM_undos iM_images rM_fresher x_6173 iM_scale iM_night rM_heardRow rM_cutRow iM_breaths iM_cutMany iM_allBreaths rM_trial rM_words iM_fewestBreaths iM_orderMany iM_orderSum iM_leastOrder rM_often iM_setMany iM_someOf iM_allOf iM_allWeight iM_enoughWeight iM_worthSum iM_firstRest iM_leastDrawn), (arI rM_tape kM_tape 900 fM_tape), (arI rM_letters kM_letters 8 f_6174), (arI rM_fresh kM_fresh 287 fM_fresh), (arI rM_read kM_read 90 fM_read), (arI rM_fresher kM_fresher 8 f_6175)]) hB rfl ht hFc rfl
    clear hz1 hk1 hvm ht hB
    have hG := hG.trans (un11_eq e_x_6165_4)
    clear r_T
    refine lv_aload_n hx hb dX7_innerLine_12 rfl (lv_at hl 0 rfl) ?_
    refine va_get (D := (dC, dI)) (ci := 7) (v := .ref rM_fresh) (C := RX7) (T := TX7) (N := 48) hx hb hts inX7 hown hK hP 0 rfl rfl 16 (by decide) (hts _ wd_156) (fun _ h9 => h9) rfl dX7_innerLine_13 ?_
    refine lv_iconst (v := 1) hx hb dX7_innerLine_16 (by decide) ?_
    refine va_iald hx hb hK hP 3 2 rfl rfl (by unfold vp_in; decide) dX7_innerLine_17 ?_
    refine lv_topi (fun x_6176 ex_6176 => ?_)
    have hG := hG.trans (lt_eq ex_6176)
    have cx_6176 : (fM_fresh 1).toInt = x_6176.toInt := congrArg Int32.toInt (show fM_fresh 1 = x_6176 from ex_6176.symm)
    refine lv_istore_n (lv' := [(2, .int x_6176), (0, .ref oM), (1, .int p0)]) hx hb dX7_innerLine_18 rfl hl (by decide) rfl (fun ls hl => ?_)
    refine lv_iconst (v := 0) hx hb dX7_innerLine_19 (by decide) ?_
    refine lv_istore_n (lv' := [(3, .int 0), (2, .int x_6176), (0, .ref oM), (1, .int p0)]) hx hb dX7_innerLine_20 rfl hl (by decide) rfl (fun ls hl => ?_)
    refine lv_iconst (v := 1) hx hb dX7_innerLine_21 (by decide) ?_
    refine lv_istore (lv' := [(4, .int 1), (3, .int 0), (2, .int x_6176), (0, .ref oM), (1, .int p0)]) hx hb dX7_innerLine_22 hl (by decide) rfl (fun ls hl => ?_)
    have hl := lv_sub hl (l' := [(4, .int 1), (3, .int 0), (2, .int x_6176), (0, .ref oM), (1, .int p0)]) [0, 1, 2, 3, 4] rfl
    have key_n_6190 : ∀ (n_6190 : Nat) (z_6177 : Int32) (z_6178 : Int32) (z_6179 : Int32) (z_6180 : Int32) (z_6181 : Int32) (z_6182 : Int32) (z_6183 : Int32) (z_6184 : Int32) (z_6185 : Int32) (z_6186 : Int32) (f_6187 : Nat → Int32) (f_6188 : Nat → Int32) (f_6189 : Nat → Int32) (H : Heap) (locs : List Loc) (ls : Array Slot), (0 ≤ z_6180.toInt ∧ z_6180.toInt ≤ 900) → (0 ≤ z_6183.toInt ∧ z_6183.toInt ≤ 900) → (0 ≤ z_6186.toInt ∧ z_6186.toInt ≤ 1) → (0 ≤ z_6177.toInt ∧ z_6177.toInt ≤ 4) → (0 ≤ z_6178.toInt ∧ z_6178.toInt ≤ 1) → (POk f_6188 f_6189) → (InOk f_6188 f_6189 (f_6188 1).toNatClampNeg z_6177.toNatClampNeg p0.toInt) → ((f_6188 1).toInt = (fM_fresh 1).toInt ∧ (f_6188 7).toInt = (fM_fresh 7).toInt ∧ (f_6188 8).toInt = (fM_fresh 8).toInt) → (ImpP (z_6178.toInt ≤ 0) (1 ≤ z_6177.toInt)) → (ImpP (z_6181.toInt = 2) (z_6183.toInt ≤ 8)) → (iM_end.toInt ≤ z_6180.toInt) → (ImpP (z_6186.toInt ≤ 0 ∧ z_6181.toInt = 59 ) (iM_end.toInt + 1 ≤ z_6180.toInt)) → (4 - z_6177.toInt).toNat < n_6190 → (PX7_innerLine fM_tape iM_size iM_at iM_end iM_token iM_whole iM_nameSize iM_fault iM_place fM_letters iM_failed fM_fresh fM_read fM_fresher iM_fresherSize p0 = HX7_innerLine_0 fM_tape iM_size p0 x_6173 f_6175 x_6176 n_6190 z_6177 z_6178 z_6179 z_6180 z_6181 z_6182 z_6183 z_6184 z_6185 z_6186 f_6187 f_6188 f_6189) → va_P (dC, dI) vwCl [(oc7 oM iM_thrown rM_tape iM_taped iM_size z_6179 z_6180 z_6181 z_6182 z_6183 z_6184 z_6185 iM_trouble rM_letters z_6186 iM_hasCourt rM_r rM_fresh rM_told rM_read rM_st rM_undone rM_kept iM_undos iM_images rM_fresher x_6173 iM_scale iM_night rM_heardRow rM_cutRow iM_breaths iM_cutMany iM_allBreaths rM_trial rM_words iM_fewestBreaths iM_orderMany iM_orderSum iM_leastOrder rM_often iM_setMany iM_someOf iM_allOf iM_allWeight iM_enoughWeight iM_worthSum iM_firstRest iM_leastDrawn), (arI rM_tape kM_tape 900 fM_tape), (arI rM_letters kM_letters 8 f_6187), (arI rM_fresh kM_fresh 287 f_6188), (arI rM_read kM_read 90 f_6189), (arI rM_fresher kM_fresher 8 f_6175)] H → va_D A [(oc7 oM iM_thrown rM_tape iM_taped iM_size z_6179 z_6180 z_6181 z_6182 z_6183 z_6184 z_6185 iM_trouble rM_letters z_6186 iM_hasCourt rM_r rM_fresh rM_told rM_read rM_st rM_undone rM_kept iM_undos iM_images rM_fresher x_6173 iM_scale iM_night rM_heardRow rM_cutRow iM_breaths iM_cutMany iM_allBreaths rM_trial rM_words iM_fewestBreaths iM_orderMany iM_orderSum iM_leastOrder rM_often iM_setMany iM_someOf iM_allOf iM_allWeight iM_enoughWeight iM_worthSum iM_firstRest iM_leastDrawn), (arI rM_tape kM_tape 900 fM_tape), (arI rM_letters kM_letters 8 f_6187), (arI rM_fresh kM_fresh 287 f_6188), (arI rM_read kM_read 90 f_6189), (arI rM_fresher kM_fresher 8 f_6175)] → va_S A s.heap H locs → lv_has ls 7 [(4, .int z_6178), (3, .int z_6177), (2, .int x_6176), (0, .ref oM), (1, .int p0)] → W p l e (headSpec (Cond.code yX7_innerLine cX7_innerLine 7 none :: wG) ({ frames := 7, cells := 0, slots := 0, locals := 175 })).room s m ([.ref oM, .int p0] : List Value).toArray below meth c H locs 0 0 (MQ below (va_Qv (fun (_ : Nat) => True) (fun (_ : Nat) (t : State) => ∃ (niM_at : Int32) (niM_end : Int32) (niM_token : Int32) (niM_whole : Int32) (niM_nameSize : Int32) (niM_fault : Int32) (niM_place : Int32) (niM_failed : Int32) (niM_fresherSize : Int32) (nfM_letters : Nat → Int32) (nfM_fresh : Nat → Int32) (nfM_read : Nat → Int32) (nfM_fresher : Nat → Int32), (0 ≤ niM_end.toInt ∧ niM_end.toInt ≤ 900) ∧ (0 ≤ niM_nameSize.toInt ∧ niM_nameSize.toInt ≤ 900) ∧ (0 ≤ niM_failed.toInt ∧ niM_failed.toInt ≤ 1) ∧ (iM_end.toInt ≤ niM_end.toInt) ∧ (ImpP (niM_token.toInt = 2) (niM_nameSize.toInt ≤ 8)) ∧ (iM_failed.toInt ≤ niM_failed.toInt) ∧ (ImpP (niM_failed.toInt ≤ 0 ∧ niM_token.toInt = 59 ) (iM_end.toInt + 1 ≤ niM_end.toInt)) ∧ (POk nfM_fresh nfM_read) ∧ (PX7_innerLine fM_tape iM_size iM_at iM_end iM_token iM_whole iM_nameSize iM_fault iM_place fM_letters iM_failed fM_fresh fM_read fM_fresher iM_fresherSize p0 = (niM_at, niM_end, niM_token, niM_whole, niM_nameSize, niM_fault, niM_place, niM_failed, niM_fresherSize, nfM_letters, nfM_fresh, nfM_read, nfM_fresher)) ∧ Bw dC dI A [(oc7 oM iM_thrown rM_tape iM_taped iM_size niM_at niM_end niM_token niM_whole niM_nameSize niM_fault niM_place iM_trouble rM_letters niM_failed iM_hasCourt rM_r rM_fresh rM_told rM_read rM_st rM_undone rM_kept iM_undos iM_images rM_fresher niM_fresherSize iM_scale iM_night rM_heardRow rM_cutRow iM_breaths iM_cutMany iM_allBreaths rM_trial rM_words iM_fewestBreaths iM_orderMany iM_orderSum iM_leastOrder rM_often iM_setMany iM_someOf iM_allOf iM_allWeight iM_enoughWeight iM_worthSum iM_firstRest iM_leastDrawn), (arI rM_tape kM_tape 900 fM_tape), (arI rM_letters kM_letters 8 nfM_letters), (arI rM_fresh kM_fresh 287 nfM_fresh), (arI rM_read kM_read 90 nfM_read), (arI rM_fresher kM_fresher 8 nfM_fresher)] [(kM_tape, .int), (kM_letters, .int), (kM_fresh, .int), (kM_read, .int), (kM_fresher, .int)] t) A) ([.ref oM, .int p0] : List Value).toArray s 0 0 A) (F0 m 24 ls []) := by
      intro n_6190
      induction n_6190 with
      | zero => intro z_6177 z_6178 z_6179 z_6180 z_6181 z_6182 z_6183 z_6184 z_6185 z_6186 f_6187 f_6188 f_6189 H locs ls b_z_6180 b_z_6183 b_z_6186 hi0_n_6190 hi1_n_6190 hi2_n_6190 hi3_n_6190 hi4_n_6190 hi5_n_6190 hi6_n_6190 hi7_n_6190 hi8_n_6190 hm; exact absurd hm (Nat.not_lt_zero _)
      | succ n_6190 ih_n_6190 =>
        intro z_6177 z_6178 z_6179 z_6180 z_6181 z_6182 z_6183 z_6184 z_6185 z_6186 f_6187 f_6188 f_6189 H locs ls b_z_6180 b_z_6183 b_z_6186 hi0_n_6190 hi1_n_6190 hi2_n_6190 hi3_n_6190 hi4_n_6190 hi5_n_6190 hi6_n_6190 hi7_n_6190 hi8_n_6190 hm_n_6190 hG hP hD hS hl
        have hG := hG.trans (HX7_innerLine_0_eq _ _ _ _ _ _ _ _ _ _ _ _ _ _ _ _ _ _ _ _)
        have pl_f_6188 := hi2_n_6190.lins
        refine lv_iload hx hb dX7_innerLine_24 (lv_at hl 0 rfl) ?_
        refine lv_if_eq (tgt := 198) hx hb dX7_innerLine_26 (by decide) (fun c_6191 => ?_) (fun c_6191 => ?_)
        · skip
          have hG := hG.trans (if_pos c_6191)
          have gc_6191 := ti_eq c_6191 rfl kc_0
          have h_6192 : 1 ≤ z_6177.toInt := hi5_n_6190 (om_02e9bb08 gc_6191)
          clear hi5_n_6190
          refine lv_aload_n hx hb dX7_innerLine_198 rfl (lv_at hl 3 rfl) ?_
          refine va_get (D := (dC, dI)) (ci := 7) (v := .int z_6186) (C := RX7) (T := TX7) (N := 48) hx hb hts inX7 hown hK hP 0 rfl rfl 13 (by decide) (hts _ wd_380) (fun _ h9 => h9) rfl dX7_innerLine_199 ?_
          refine lv_if_eq (tgt := 206) hx hb dX7_innerLine_202 (by decide) (fun c_6193 => ?_) (fun c_6193 => ?_)
          · skip
            have hG := hG.trans (if_pos c_6193)
            have gc_6193 := ti_eq c_6193 rfl kc_0
            refine lv_aload_n hx hb dX7_innerLine_206 rfl (lv_at hl 3 rfl) ?_
            refine va_get (D := (dC, dI)) (ci := 7) (v := .ref rM_fresh) (C := RX7) (T := TX7) (N := 48) hx hb hts inX7 hown hK hP 0 rfl rfl 16 (by decide) (hts _ wd_156) (fun _ h9 => h9) rfl dX7_innerLine_207 ?_
            refine lv_bipush (v := 27) hx hb dX7_innerLine_210 (by decide) ?_
            refine lv_iload_n hx hb dX7_innerLine_212 rfl (lv_at hl 2 rfl) ?_
            refine lv_iadd hx hb dX7_innerLine_213 ?_
            refine lv_topi (fun x_6194 ex_6194 => ?_)
            have hG := hG.trans (lt_eq ex_6194)
            have vx_6194 : x_6194.toInt = x_6176.toInt + 27 := om_6c48219a (ti_add ex_6194 kc_27 rfl (om_41e8b5f2 pl_fM_fresh.2.2.2.2.1.1 pl_fM_fresh.2.2.2.2.1.2 cx_6176) (om_2e953c3d pl_fM_fresh.2.1 pl_fM_fresh.2.2.1.2 pl_fM_fresh.2.2.2.2.2.1.2 cx_6176))
            refine lv_iload_n hx hb dX7_innerLine_214 rfl (lv_at hl 1 rfl) ?_
            refine va_iast hx hb hK hP hD hS 3 2 rfl rfl (ti_in vx_6194 (om_88805813 pl_fM_fresh.2.2.2.2.1.1 pl_fM_fresh.2.2.2.2.1.2 cx_6176) (om_400ea2f3 pl_fM_fresh.2.1 pl_fM_fresh.2.2.1.2 pl_fM_fresh.2.2.2.2.2.1.2 cx_6176)) dX7_innerLine_215 (fun H locs hP hD hS => ?_)
            obtain ⟨f_6195, ef_6195⟩ : ∃ g : Nat → Int32, g = upd f_6188 x_6194.toNatClampNeg z_6177 := ⟨_, rfl⟩
            rw [← ef_6195] at hP hD
            have hG := hG.trans (lt_eq ef_6195)
            obtain ⟨hP, hD⟩ := wl2 (ws' := [(oc7 oM iM_thrown rM_tape iM_taped iM_size z_6179 z_6180 z_6181 z_6182 z_6183 z_6184 z_6185 iM_trouble rM_letters z_6186 iM_hasCourt rM_r rM_fresh rM_told rM_read rM_st rM_undone rM_kept iM_undos iM_images rM_fresher x_6173 iM_scale iM_night rM_heardRow rM_cutRow iM_breaths iM_cutMany iM_allBreaths rM_trial rM_words iM_fewestBreaths iM_orderMany iM_orderSum iM_leastOrder rM_often iM_setMany iM_someOf iM_allOf iM_allWeight iM_enoughWeight iM_worthSum iM_firstRest iM_leastDrawn), (arI rM_tape kM_tape 900 fM_tape), (arI rM_letters kM_letters 8 f_6187), (arI rM_fresh kM_fresh 287 f_6195), (arI rM_read kM_read 90 f_6189), (arI rM_fresher kM_fresher 8 f_6175)]) hP hD rfl
            have o1_f_6195 : (f_6195 1).toInt = (f_6188 1).toInt := put_at ef_6195 (Nat.ne_of_lt (om_748d98c6 (ti_cl (x := x_6194) vx_6194 (om_88805813 pl_fM_fresh.2.2.2.2.1.1 pl_fM_fresh.2.2.2.2.1.2 cx_6176)) pl_fM_fresh.2.2.2.2.1.1 pl_fM_fresh.2.2.2.2.1.2 cx_6176))
            have o7_f_6195 : (f_6195 7).toInt = (f_6188 7).toInt := put_at ef_6195 (Nat.ne_of_lt (om_62246ba3 (ti_cl (x := x_6194) vx_6194 (om_88805813 pl_fM_fresh.2.2.2.2.1.1 pl_fM_fresh.2.2.2.2.1.2 cx_6176)) pl_fM_fresh.2.2.2.2.1.1 pl_fM_fresh.2.2.2.2.1.2 cx_6176))
            have o8_f_6195 : (f_6195 8).toInt = (f_6188 8).toInt := put_at ef_6195 (Nat.ne_of_lt (om_4d313e7b (ti_cl (x := x_6194) vx_6194 (om_88805813 pl_fM_fresh.2.2.2.2.1.1 pl_fM_fresh.2.2.2.2.1.2 cx_6176)) pl_fM_fresh.2.2.2.2.1.1 pl_fM_fresh.2.2.2.2.1.2 cx_6176))
            refine lv_aload_n hx hb dX7_innerLine_216 rfl (lv_at hl 3 rfl) ?_
            refine lv_iload_n hx hb dX7_innerLine_217 rfl (lv_at hl 4 rfl) ?_
            have hMs := ml_of hD [true, false, false, true, false, true] (wc := [(oc7 oM iM_thrown rM_tape iM_taped iM_size z_6179 z_6180 z_6181 z_6182 z_6183 z_6184 z_6185 iM_trouble rM_letters z_6186 iM_hasCourt rM_r rM_fresh rM_told rM_read rM_st rM_undone rM_kept iM_undos iM_images rM_fresher x_6173 iM_scale iM_night rM_heardRow rM_cutRow iM_breaths iM_cutMany iM_allBreaths rM_trial rM_words iM_fewestBreaths iM_orderMany iM_orderSum iM_leastOrder rM_often iM_setMany iM_someOf iM_allOf iM_allWeight iM_enoughWeight iM_worthSum iM_firstRest iM_leastDrawn), (arI rM_fresh kM_fresh 287 f_6195), (arI rM_fresher kM_fresher 8 f_6175)]) rfl
            have hFc := va_freeM hD hS hA _ hMs
            refine va_callv (va_runV (As := [.int p0]) (rest := []) ⟨hx, hb, hml, hown, hts⟩ (tX7_lay l dC dI _ oM iM_thrown rM_tape iM_taped iM_size z_6179 z_6180 z_6181 z_6182 z_6183 z_6184 z_6185 iM_trouble rM_letters z_6186 iM_hasCourt rM_r rM_fresh f_6195 kM_fresh rM_told rM_read rM_st rM_undone rM_kept iM_undos iM_images rM_fresher f_6175 kM_fresher x_6173 iM_scale iM_night rM_heardRow rM_cutRow iM_breaths iM_cutMany iM_allBreaths rM_trial rM_words iM_fewestBreaths iM_orderMany iM_orderSum iM_leastOrder rM_often iM_setMany iM_someOf iM_allOf iM_allWeight iM_enoughWeight iM_worthSum iM_firstRest iM_leastDrawn p0 b_iM_taped b_iM_size b_z_6180 b_z_6183 b_z_6186 b_iM_hasCourt b_iM_undos b_iM_images b_iM_scale b_iM_breaths b_iM_cutMany hi6_n_6190 (om_02e9bb08 gc_6193) ⟨(om_a12d6474 pl_f_6188.2.2.2.2.1.1 pl_f_6188.2.2.2.2.1.2 o1_f_6195), (om_10e45097 pl_fM_fresh.2.1 pl_fM_fresh.2.2.1.2 h_6164 hi4_n_6190.1 o1_f_6195)⟩) (cwV 1 hts (wd_V wd_478 wd_479 wd_480 wd_5 (wd_c wd_481)) rfl rfl rfl dv_yX7_lay_1 ⟨Nat.le_of_ble_eq_true rfl, Nat.le_of_ble_eq_true rfl⟩) ⟨Pw.fb, recvX7 hK hP (q0 := 0) rfl, fun U hU hW => Pw.to (hP.ms _ hMs) (hD.ms _ hMs) (hK.ms [false, false, true, false, true] rfl) hE hS hFc hU hW⟩ rfl rfl hl.1 rfl (lv_room (Nat.le_of_ble_eq_true rfl)) dX7_innerLine_218 ⟨Nat.le_of_ble_eq_true rfl, Nat.le_of_ble_eq_true rfl⟩) hS (fun q _ h => hFc q h) hFc (fun u t H locs ht hvm hw hB hz1 hk1 hS => ?_)
            refine ex_1_2 hB (fun f_6196 e_f_6196_0 e_f_6196_1 hB => ?_)
            obtain ⟨hP, hD⟩ := Bw.goN (ws' := [(oc7 oM iM_thrown rM_tape iM_taped iM_size z_6179 z_6180 z_6181 z_6182 z_6183 z_6184 z_6185 iM_trouble rM_letters z_6186 iM_hasCourt rM_r rM_fresh rM_told rM_read rM_st rM_undone rM_kept iM_undos iM_images rM_fresher x_6173 iM_scale iM_night rM_heardRow rM_cutRow iM_breaths iM_cutMany iM_allBreaths rM_trial rM_words iM_fewestBreaths iM_orderMany iM_orderSum iM_leastOrder rM_often iM_setMany iM_someOf iM_allOf iM_allWeight iM_enoughWeight iM_worthSum iM_firstRest iM_leastDrawn), (arI rM_tape kM_tape 900 fM_tape), (arI rM_letters kM_letters 8 f_6187), (arI rM_fresh kM_fresh 287 f_6196), (arI rM_read kM_read 90 f_6189), (arI rM_fresher kM_fresher 8 f_6175)]) hB rfl ht hP hD _ hMs hk1 hFc rfl
            clear hz1 hk1 hvm ht hB hMs
            have o2_f_6196 : (f_6196 2).toInt = (f_6195 2).toInt := by rw [(e_f_6196_0).2.2.1 2 (by decide) (by decide) (Nat.ne_of_lt (Nat.lt_of_lt_of_le (by decide) (Nat.le_add_right 9 _)))]
            have o7_f_6196 : (f_6196 7).toInt = (f_6195 7).toInt := by rw [(e_f_6196_0).2.2.1 7 (by decide) (by decide) (Nat.ne_of_lt (Nat.lt_of_lt_of_le (by decide) (Nat.le_add_right 9 _)))]
            have o8_f_6196 : (f_6196 8).toInt = (f_6195 8).toInt := by rw [(e_f_6196_0).2.2.1 8 (by decide) (by decide) (Nat.ne_of_lt (Nat.lt_of_lt_of_le (by decide) (Nat.le_add_right 9 _)))]
            have hG := hG.trans (lt_eq e_f_6196_1.symm)
            refine lv_aload_n hx hb dX7_innerLine_221 rfl (lv_at hl 3 rfl) ?_
            refine va_get (D := (dC, dI)) (ci := 7) (v := .ref rM_fresh) (C := RX7) (T := TX7) (N := 48) hx hb hts inX7 hown hK hP 0 rfl rfl 16 (by decide) (hts _ wd_156) (fun _ h9 => h9) rfl dX7_innerLine_222 ?_
            refine lv_bipush (v := 7) hx hb dX7_innerLine_225 (by decide) ?_
            refine lv_dup2_11 hx hb dX7_innerLine_227 rfl rfl ?_
            refine va_iald hx hb hK hP 3 2 rfl rfl (by unfold vp_in; decide) dX7_innerLine_228 ?_
            refine lv_topi (fun x_6197 ex_6197 => ?_)
            have hG := hG.trans (lt_eq ex_6197)
            have cx_6197 : (f_6196 7).toInt = x_6197.toInt := congrArg Int32.toInt (show f_6196 7 = x_6197 from ex_6197.symm)
            refine lv_iconst (v := 1) hx hb dX7_innerLine_229 (by decide) ?_
            refine lv_iadd hx hb dX7_innerLine_230 ?_
            refine lv_topi (fun x_6198 ex_6198 => ?_)
            have hG := hG.trans (lt_eq ex_6198)
            have vx_6198 : x_6198.toInt = x_6197.toInt + 1 := ti_add ex_6198 rfl kc_1 (om_5f3e4666 pl_f_6188.2.2.2.2.2.1.1 o7_f_6195 o7_f_6196 cx_6197) (om_ac8e3760 pl_f_6188.2.2.2.2.2.1.2 o7_f_6195 o7_f_6196 cx_6197)
            refine va_iast hx hb hK hP hD hS 3 2 rfl rfl (by unfold vp_in; decide) dX7_innerLine_231 (fun H locs hP hD hS => ?_)
            obtain ⟨f_6199, ef_6199⟩ : ∃ g : Nat → Int32, g = upd f_6196 (7 : Int32).toNatClampNeg x_6198 := ⟨_, rfl⟩
            rw [← ef_6199] at hP hD
            have hG := hG.trans (lt_eq ef_6199)
            obtain ⟨hP, hD⟩ := wl2 (ws' := [(oc7 oM iM_thrown rM_tape iM_taped iM_size z_6179 z_6180 z_6181 z_6182 z_6183 z_6184 z_6185 iM_trouble rM_letters z_6186 iM_hasCourt rM_r rM_fresh rM_told rM_read rM_st rM_undone rM_kept iM_undos iM_images rM_fresher x_6173 iM_scale iM_night rM_heardRow rM_cutRow iM_breaths iM_cutMany iM_allBreaths rM_trial rM_words iM_fewestBreaths iM_orderMany iM_orderSum iM_leastOrder rM_often iM_setMany iM_someOf iM_allOf iM_allWeight iM_enoughWeight iM_worthSum iM_firstRest iM_leastDrawn), (arI rM_tape kM_tape 900 fM_tape), (arI rM_letters kM_letters 8 f_6187), (arI rM_fresh kM_fresh 287 f_6199), (arI rM_read kM_read 90 f_6189), (arI rM_fresher kM_fresher 8 f_6175)]) hP hD rfl
            have o8_f_6199 : (f_6199 8).toInt = (f_6196 8).toInt := put_at ef_6199 (by decide)
            refine lv_aload_n hx hb dX7_innerLine_232 rfl (lv_at hl 3 rfl) ?_
            refine va_get (D := (dC, dI)) (ci := 7) (v := .ref rM_fresh) (C := RX7) (T := TX7) (N := 48) hx hb hts inX7 hown hK hP 0 rfl rfl 16 (by decide) (hts _ wd_156) (fun _ h9 => h9) rfl dX7_innerLine_233 ?_
            refine lv_bipush (v := 8) hx hb dX7_innerLine_236 (by decide) ?_
            refine lv_dup2_11 hx hb dX7_innerLine_238 rfl rfl ?_
            refine va_iald hx hb hK hP 3 2 rfl rfl (by unfold vp_in; decide) dX7_innerLine_239 ?_
            refine lv_topi (fun x_6200 ex_6200 => ?_)
            have hG := hG.trans (lt_eq ex_6200)
            have cx_6200 : (f_6199 8).toInt = x_6200.toInt := congrArg Int32.toInt (show f_6199 8 = x_6200 from ex_6200.symm)
            refine lv_iload_n hx hb dX7_innerLine_240 rfl (lv_at hl 4 rfl) ?_
            refine lv_iconst (v := 3) hx hb dX7_innerLine_241 (by decide) ?_
            refine lv_icmp_ne (tgt := 249) hx hb dX7_innerLine_242 (by decide) (fun c_6201 => ?_) (fun c_6201 => ?_)
            · skip
              have hG := hG.trans (if_neg c_6201)
              have gc_6201 := ti_ne c_6201 rfl kc_3
              replace gc_6201 : p0.toInt + (-2) ≤ 0 := om_b7ea5ffe gc_6201 hp0.2
              clear hic
              refine lv_iconst (v := 0) hx hb dX7_innerLine_249 (by decide) ?_
              refine lv_iadd hx hb dX7_innerLine_250 ?_
              refine lv_topi (fun x_6202 ex_6202 => ?_)
              have hG := hG.trans (lt_eq ex_6202)
              have vx_6202 : x_6202.toInt = x_6200.toInt := om_75165550 (ti_add ex_6202 rfl kc_0 (om_5483085b pl_f_6188.2.2.2.2.2.2.1 o8_f_6195 o8_f_6196 o8_f_6199 cx_6200) (om_2ab9c540 pl_f_6188.2.2.2.2.2.2.2 o8_f_6195 o8_f_6196 o8_f_6199 cx_6200))
              refine va_iast hx hb hK hP hD hS 3 2 rfl rfl (by unfold vp_in; decide) dX7_innerLine_251 (fun H locs hP hD hS => ?_)
              obtain ⟨f_6203, ef_6203⟩ : ∃ g : Nat → Int32, g = upd f_6199 (8 : Int32).toNatClampNeg x_6202 := ⟨_, rfl⟩
              rw [← ef_6203] at hP hD
              have hG := hG.trans (lt_eq ef_6203)
              obtain ⟨hP, hD⟩ := wl2 (ws' := [(oc7 oM iM_thrown rM_tape iM_taped iM_size z_6179 z_6180 z_6181 z_6182 z_6183 z_6184 z_6185 iM_trouble rM_letters z_6186 iM_hasCourt rM_r rM_fresh rM_told rM_read rM_st rM_undone rM_kept iM_undos iM_images rM_fresher x_6173 iM_scale iM_night rM_heardRow rM_cutRow iM_breaths iM_cutMany iM_allBreaths rM_trial rM_words iM_fewestBreaths iM_orderMany iM_orderSum iM_leastOrder rM_often iM_setMany iM_someOf iM_allOf iM_allWeight iM_enoughWeight iM_worthSum iM_firstRest iM_leastDrawn), (arI rM_tape kM_tape 900 fM_tape), (arI rM_letters kM_letters 8 f_6187), (arI rM_fresh kM_fresh 287 f_6203), (arI rM_read kM_read 90 f_6189), (arI rM_fresher kM_fresher 8 f_6175)]) hP hD rfl
              have pk_f_6203 : POk f_6203 f_6189 := POk.inner (f := f_6188) (m := z_6177.toNatClampNeg) hi2_n_6190 ef_6195 (by have q9 := ti_cl (x := x_6194) vx_6194 (om_88805813 pl_fM_fresh.2.2.2.2.1.1 pl_fM_fresh.2.2.2.2.1.2 cx_6176); have q2 := ti_cl (x := f_6188 1) rfl (by omega); omega) (by have q3 := ti_cl (x := z_6177) rfl hi0_n_6190.1; omega) (by have q3 := ti_cl (x := z_6177) rfl hi0_n_6190.1; omega) (by have q3 := ti_cl (x := z_6177) rfl hi0_n_6190.1; omega) e_f_6196_0 (by omega) ef_6199 rfl (by have q := vx_6198; omega) ef_6203 rfl (by have q := vx_6202; have q0 := kc_0; have q1 := kc_1; first | (rw [if_pos (by omega)]; omega) | (rw [if_neg (by omega)]; omega)) (by omega) (fun h9 => by omega) hi3_n_6190
              have pl_f_6203 := pk_f_6203.lins
              exact wq_v hx hb hr 0 trivial (fun t ht hW => ⟨z_6179, z_6180, z_6181, z_6182, z_6183, z_6184, z_6185, z_6186, x_6173, f_6187, f_6203, f_6189, f_6175, b_z_6180, b_z_6183, b_z_6186, hi7_n_6190, hi6_n_6190, (om_1fc3dec6 gc_6163 b_z_6186.1), hi8_n_6190, pk_f_6203, hG, Bw.to hP hD hK ht hW⟩) hS dX7_innerLine_252 hlocks
            · skip
              have hG := hG.trans (if_pos c_6201)
              have gc_6201 := ti_eq c_6201 rfl kc_3
              have h_6204 : (fM_fresh 8).toInt ≤ 1 := hic ⟨(om_02e9bb08 gc_6163), (om_ce492ef9 hp0.2 gc_6201)⟩
              clear hic
              refine lv_iconst (v := 1) hx hb dX7_innerLine_245 (by decide) ?_
              refine lv_goto (tgt := 250) hx hb dX7_innerLine_246 (by decide) ?_
              refine lv_iadd hx hb dX7_innerLine_250 ?_
              refine lv_topi (fun x_6205 ex_6205 => ?_)
              have hG := hG.trans (lt_eq ex_6205)
              have vx_6205 : x_6205.toInt = x_6200.toInt + 1 := ti_add ex_6205 rfl kc_1 (om_d0c17b76 pl_f_6188.2.2.2.2.2.2.1 o8_f_6195 o8_f_6196 o8_f_6199 cx_6200) (om_387097be pl_f_6188.2.2.2.2.2.2.2 o8_f_6195 o8_f_6196 o8_f_6199 cx_6200)
              refine va_iast hx hb hK hP hD hS 3 2 rfl rfl (by unfold vp_in; decide) dX7_innerLine_251 (fun H locs hP hD hS => ?_)
              obtain ⟨f_6206, ef_6206⟩ : ∃ g : Nat → Int32, g = upd f_6199 (8 : Int32).toNatClampNeg x_6205 := ⟨_, rfl⟩
              rw [← ef_6206] at hP hD
              have hG := hG.trans (lt_eq ef_6206)
              obtain ⟨hP, hD⟩ := wl2 (ws' := [(oc7 oM iM_thrown rM_tape iM_taped iM_size z_6179 z_6180 z_6181 z_6182 z_6183 z_6184 z_6185 iM_trouble rM_letters z_6186 iM_hasCourt rM_r rM_fresh rM_told rM_read rM_st rM_undone rM_kept iM_undos iM_images rM_fresher x_6173 iM_scale iM_night rM_heardRow rM_cutRow iM_breaths iM_cutMany iM_allBreaths rM_trial rM_words iM_fewestBreaths iM_orderMany iM_orderSum iM_leastOrder rM_often iM_setMany iM_someOf iM_allOf iM_allWeight iM_enoughWeight iM_worthSum iM_firstRest iM_leastDrawn), (arI rM_tape kM_tape 900 fM_tape), (arI rM_letters kM_letters 8 f_6187), (arI rM_fresh kM_fresh 287 f_6206), (arI rM_read kM_read 90 f_6189), (arI rM_fresher kM_fresher 8 f_6175)]) hP hD rfl
              have pk_f_6206 : POk f_6206 f_6189 := POk.inner (f := f_6188) (m := z_6177.toNatClampNeg) hi2_n_6190 ef_6195 (by have q9 := ti_cl (x := x_6194) vx_6194 (om_88805813 pl_fM_fresh.2.2.2.2.1.1 pl_fM_fresh.2.2.2.2.1.2 cx_6176); have q2 := ti_cl (x := f_6188 1) rfl (by omega); omega) (by have q3 := ti_cl (x := z_6177) rfl hi0_n_6190.1; omega) (by have q3 := ti_cl (x := z_6177) rfl hi0_n_6190.1; omega) (by have q3 := ti_cl (x := z_6177) rfl hi0_n_6190.1; omega) e_f_6196_0 (by omega) ef_6199 rfl (by have q := vx_6198; omega) ef_6206 rfl (by have q := vx_6205; have q0 := kc_0; have q1 := kc_1; first | (rw [if_pos (by omega)]; omega) | (rw [if_neg (by omega)]; omega)) (by omega) (fun h9 => by omega) hi3_n_6190
              have pl_f_6206 := pk_f_6206.lins
              exact wq_v hx hb hr 0 trivial (fun t ht hW => ⟨z_6179, z_6180, z_6181, z_6182, z_6183, z_6184, z_6185, z_6186, x_6173, f_6187, f_6206, f_6189, f_6175, b_z_6180, b_z_6183, b_z_6186, hi7_n_6190, hi6_n_6190, (om_1fc3dec6 gc_6163 b_z_6186.1), hi8_n_6190, pk_f_6206, hG, Bw.to hP hD hK ht hW⟩) hS dX7_innerLine_252 hlocks
          · skip
            have hG := hG.trans (if_neg c_6193)
            have gc_6193 := ti_ne c_6193 rfl kc_0
            replace gc_6193 : (-1) * z_6186.toInt + 1 ≤ 0 := om_e3003f79 gc_6193 b_z_6186.1
            exact wq_v hx hb hr 0 trivial (fun t ht hW => ⟨z_6179, z_6180, z_6181, z_6182, z_6183, z_6184, z_6185, z_6186, x_6173, f_6187, f_6188, f_6189, f_6175, b_z_6180, b_z_6183, b_z_6186, hi7_n_6190, hi6_n_6190, (om_1fc3dec6 gc_6163 b_z_6186.1), hi8_n_6190, hi2_n_6190, hG, Bw.to hP hD hK ht hW⟩) hS dX7_innerLine_205 hlocks
        · skip
          have hG := hG.trans (if_neg c_6191)
          have gc_6191 := ti_ne c_6191 rfl kc_0
          replace gc_6191 : (-1) * z_6178.toInt + 1 ≤ 0 := om_e3003f79 gc_6191 hi1_n_6190.1
          clear hi5_n_6190
          refine lv_aload_n hx hb dX7_innerLine_29 rfl (lv_at hl 3 rfl) ?_
          refine va_get (D := (dC, dI)) (ci := 7) (v := .int z_6186) (C := RX7) (T := TX7) (N := 48) hx hb hts inX7 hown hK hP 0 rfl rfl 13 (by decide) (hts _ wd_380) (fun _ h9 => h9) rfl dX7_innerLine_30 ?_
          refine lv_if_ne (tgt := 198) hx hb dX7_innerLine_33 (by decide) (fun c_6207 => ?_) (fun c_6207 => ?_)
          · skip
            have hG := hG.trans (if_neg c_6207)
            have gc_6207 := ti_ne c_6207 rfl kc_0
            replace gc_6207 : (-1) * z_6186.toInt + 1 ≤ 0 := om_e3003f79 gc_6207 b_z_6186.1
            refine lv_aload_n hx hb dX7_innerLine_198 rfl (lv_at hl 3 rfl) ?_
            refine va_get (D := (dC, dI)) (ci := 7) (v := .int z_6186) (C := RX7) (T := TX7) (N := 48) hx hb hts inX7 hown hK hP 0 rfl rfl 13 (by decide) (hts _ wd_380) (fun _ h9 => h9) rfl dX7_innerLine_199 ?_
            refine lv_if_eq (tgt := 206) hx hb dX7_innerLine_202 (by decide) (fun c_6208 => ?_) (fun c_6208 => ?_)
            · skip
              have hG := hG.trans (if_pos c_6208)
              have gc_6208 := ti_eq c_6208 rfl kc_0
              exact ((om_77e4ddb5 gc_6207 gc_6208)).elim
            · skip
              have hG := hG.trans (if_neg c_6208)
              have gc_6208 := ti_ne c_6208 rfl kc_0
              replace gc_6208 : (-1) * z_6186.toInt + 1 ≤ 0 := om_e3003f79 gc_6208 b_z_6186.1
              exact wq_v hx hb hr 0 trivial (fun t ht hW => ⟨z_6179, z_6180, z_6181, z_6182, z_6183, z_6184, z_6185, z_6186, x_6173, f_6187, f_6188, f_6189, f_6175, b_z_6180, b_z_6183, b_z_6186, hi7_n_6190, hi6_n_6190, (om_1fc3dec6 gc_6163 b_z_6186.1), hi8_n_6190, hi2_n_6190, hG, Bw.to hP hD hK ht hW⟩) hS dX7_innerLine_205 hlocks
          · skip
            have hG := hG.trans (if_pos c_6207)
            have gc_6207 := ti_eq c_6207 rfl kc_0
            refine lv_aload_n hx hb dX7_innerLine_36 rfl (lv_at hl 3 rfl) ?_
            have hMs := ml_of hD [true, false, true, true, true, false] (wc := [(oc7 oM iM_thrown rM_tape iM_taped iM_size z_6179 z_6180 z_6181 z_6182 z_6183 z_6184 z_6185 iM_trouble rM_letters z_6186 iM_hasCourt rM_r rM_fresh rM_told rM_read rM_st rM_undone rM_kept iM_undos iM_images rM_fresher x_6173 iM_scale iM_night rM_heardRow rM_cutRow iM_breaths iM_cutMany iM_allBreaths rM_trial rM_words iM_fewestBreaths iM_orderMany iM_orderSum iM_leastOrder rM_often iM_setMany iM_someOf iM_allOf iM_allWeight iM_enoughWeight iM_worthSum iM_firstRest iM_leastDrawn), (arI rM_letters kM_letters 8 f_6187), (arI rM_fresh kM_fresh 287 f_6188), (arI rM_read kM_read 90 f_6189)]) rfl
            have hFc := va_freeM hD hS hA _ hMs
            refine va_calli (va_runV (As := []) (rest := []) ⟨hx, hb, hml, hown, hts⟩ (tX7_nodeHere l dC dI _ oM iM_thrown rM_tape iM_taped iM_size z_6179 z_6180 z_6181 z_6182 z_6183 z_6184 z_6185 iM_trouble rM_letters f_6187 kM_letters z_6186 iM_hasCourt rM_r rM_fresh f_6188 kM_fresh rM_told rM_read f_6189 kM_read rM_st rM_undone rM_kept iM_undos iM_images rM_fresher x_6173 iM_scale iM_night rM_heardRow rM_cutRow iM_breaths iM_cutMany iM_allBreaths rM_trial rM_words iM_fewestBreaths iM_orderMany iM_orderSum iM_leastOrder rM_often iM_setMany iM_someOf iM_allOf iM_allWeight iM_enoughWeight iM_worthSum iM_firstRest iM_leastDrawn b_iM_taped b_iM_size b_z_6180 b_z_6183 b_z_6186 b_iM_hasCourt b_iM_undos b_iM_images b_iM_scale b_iM_breaths b_iM_cutMany hi6_n_6190 hi2_n_6190) (cwV 0 hts (wd_V wd_486 wd_487 wd_488 wd_5 (wd_c wd_489)) rfl rfl rfl dv_yX7_nodeHere_0 ⟨Nat.le_of_ble_eq_true rfl, Nat.le_of_ble_eq_true rfl⟩) ⟨Pw.fb, recvX7 hK hP (q0 := 0) rfl, fun U hU hW => Pw.to (hP.ms _ hMs) (hD.ms _ hMs) (hK.ms [false, true, true, true, false] rfl) hE hS hFc hU hW⟩ rfl rfl hl.1 rfl (lv_room (Nat.le_of_ble_eq_true rfl)) dX7_innerLine_37 ⟨Nat.le_of_ble_eq_true rfl, Nat.le_of_ble_eq_true rfl⟩) hS (fun q _ h => hFc q h) hFc (fun r u t H locs ht hvm hw hB hz1 hk1 hS => ?_)
            have hru9 := hw.2
            have hw := hw.1
            refine ex_3_4 hB (fun x_6209 x_6210 x_6211 b_x_6211 e_x_6209_0 e_x_6209_1 e_x_6209_2 hB => ?_)
            obtain ⟨hP, hD⟩ := Bw.goN (ws' := [(oc7 oM iM_thrown rM_tape iM_taped iM_size z_6179 z_6180 z_6181 z_6182 z_6183 x_6209 x_6210 iM_trouble rM_letters x_6211 iM_hasCourt rM_r rM_fresh rM_told rM_read rM_st rM_undone rM_kept iM_undos iM_images rM_fresher x_6173 iM_scale iM_night rM_heardRow rM_cutRow iM_breaths iM_cutMany iM_allBreaths rM_trial rM_words iM_fewestBreaths iM_orderMany iM_orderSum iM_leastOrder rM_often iM_setMany iM_someOf iM_allOf iM_allWeight iM_enoughWeight iM_worthSum iM_firstRest iM_leastDrawn), (arI rM_tape kM_tape 900 fM_tape), (arI rM_letters kM_letters 8 f_6187), (arI rM_fresh kM_fresh 287 f_6188), (arI rM_read kM_read 90 f_6189), (arI rM_fresher kM_fresher 8 f_6175)]) hB rfl ht hP hD _ hMs hk1 hFc rfl
            clear hz1 hk1 hvm ht hB hMs
            rw [← hru9] at e_x_6209_2
            obtain ⟨x_6212, rfl⟩ : ∃ z, z = r := ⟨_, rfl⟩
            have hG := hG.trans (un4_eq e_x_6209_2)
            have lx_6212 := hw.2
            have ux_6212 := hw.2
            refine lv_istore (lv' := [(5, .int x_6212), (4, .int z_6178), (3, .int z_6177), (2, .int x_6176), (0, .ref oM), (1, .int p0)]) hx hb dX7_innerLine_40 hl (by decide) rfl (fun ls hl => ?_)
            refine lv_iconst (v := 0) hx hb dX7_innerLine_42 (by decide) ?_
            refine lv_istore (lv' := [(6, .int 0), (5, .int x_6212), (4, .int z_6178), (3, .int z_6177), (2, .int x_6176), (0, .ref oM), (1, .int p0)]) hx hb dX7_innerLine_43 hl (by decide) rfl (fun ls hl => ?_)
            have hl := lv_sub hl (l' := [(6, .int 0), (5, .int x_6212), (4, .int z_6178), (3, .int z_6177), (2, .int x_6176), (0, .ref oM), (1, .int p0)]) [0, 1, 2, 3, 4, 5, 6] rfl
            have key_n_6217 : ∀ (n_6217 : Nat) (z_6213 : Int32) (z_6214 : Int32) (z_6215 : Int32) (z_6216 : Int32) (H : Heap) (locs : List Loc) (ls : Array Slot), (0 ≤ z_6214.toInt ∧ z_6214.toInt ≤ 1) → (0 ≤ z_6213.toInt ∧ z_6213.toInt ≤ z_6177.toInt) → (x_6211.toInt ≤ z_6214.toInt) → (NeI z_6214.toInt z_6213.toNatClampNeg f_6189 x_6176.toNatClampNeg x_6212.toInt) → (z_6177.toInt - z_6213.toInt).toNat < n_6217 → (PX7_innerLine fM_tape iM_size iM_at iM_end iM_token iM_whole iM_nameSize iM_fault iM_place fM_letters iM_failed fM_fresh fM_read fM_fresher iM_fresherSize p0 = HX7_innerLine_1 fM_tape iM_size p0 x_6173 f_6175 x_6176 z_6177 z_6179 z_6180 z_6181 z_6182 z_6183 f_6187 f_6188 f_6189 x_6212 (fun (z_6177 : Int32) (z_6178 : Int32) (z_6179 : Int32) (z_6180 : Int32) (z_6181 : Int32) (z_6182 : Int32) (z_6183 : Int32) (z_6184 : Int32) (z_6185 : Int32) (z_6186 : Int32) (f_6187 : Nat → Int32) (f_6188 : Nat → Int32) (f_6189 : Nat → Int32) => HX7_innerLine_0 fM_tape iM_size p0 x_6173 f_6175 x_6176 n_6190 z_6177 z_6178 z_6179 z_6180 z_6181 z_6182 z_6183 z_6184 z_6185 z_6186 f_6187 f_6188 f_6189) n_6217 z_6213 z_6214 z_6215 z_6216) → va_P (dC, dI) vwCl [(oc7 oM iM_thrown rM_tape iM_taped iM_size z_6179 z_6180 z_6181 z_6182 z_6183 z_6215 z_6216 iM_trouble rM_letters z_6214 iM_hasCourt rM_r rM_fresh rM_told rM_read rM_st rM_undone rM_kept iM_undos iM_images rM_fresher x_6173 iM_scale iM_night rM_heardRow rM_cutRow iM_breaths iM_cutMany iM_allBreaths rM_trial rM_words iM_fewestBreaths iM_orderMany iM_orderSum iM_leastOrder rM_often iM_setMany iM_someOf iM_allOf iM_allWeight iM_enoughWeight iM_worthSum iM_firstRest iM_leastDrawn), (arI rM_tape kM_tape 900 fM_tape), (arI rM_letters kM_letters 8 f_6187), (arI rM_fresh kM_fresh 287 f_6188), (arI rM_read kM_read 90 f_6189), (arI rM_fresher kM_fresher 8 f_6175)] H → va_D A [(oc7 oM iM_thrown rM_tape iM_taped iM_size z_6179 z_6180 z_6181 z_6182 z_6183 z_6215 z_6216 iM_trouble rM_letters z_6214 iM_hasCourt rM_r rM_fresh rM_told rM_read rM_st rM_undone rM_kept iM_undos iM_images rM_fresher x_6173 iM_scale iM_night rM_heardRow rM_cutRow iM_breaths iM_cutMany iM_allBreaths rM_trial rM_words iM_fewestBreaths iM_orderMany iM_orderSum iM_leastOrder rM_often iM_setMany iM_someOf iM_allOf iM_allWeight iM_enoughWeight iM_worthSum iM_firstRest iM_leastDrawn), (arI rM_tape kM_tape 900 fM_tape), (arI rM_letters kM_letters 8 f_6187), (arI rM_fresh kM_fresh 287 f_6188), (arI rM_read kM_read 90 f_6189), (arI rM_fresher kM_fresher 8 f_6175)] → va_S A s.heap H locs → lv_has ls 7 [(6, .int z_6213), (5, .int x_6212), (4, .int z_6178), (3, .int z_6177), (2, .int x_6176), (0, .ref oM), (1, .int p0)] → W p l e (headSpec (Cond.code yX7_innerLine cX7_innerLine 7 none :: wG) ({ frames := 7, cells := 0, slots := 0, locals := 175 })).room s m ([.ref oM, .int p0] : List Value).toArray below meth c H locs 0 0 (MQ below (va_Qv (fun (_ : Nat) => True) (fun (_ : Nat) (t : State) => ∃ (niM_at : Int32) (niM_end : Int32) (niM_token : Int32) (niM_whole : Int32) (niM_nameSize : Int32) (niM_fault : Int32) (niM_place : Int32) (niM_failed : Int32) (niM_fresherSize : Int32) (nfM_letters : Nat → Int32) (nfM_fresh : Nat → Int32) (nfM_read : Nat → Int32) (nfM_fresher : Nat → Int32), (0 ≤ niM_end.toInt ∧ niM_end.toInt ≤ 900) ∧ (0 ≤ niM_nameSize.toInt ∧ niM_nameSize.toInt ≤ 900) ∧ (0 ≤ niM_failed.toInt ∧ niM_failed.toInt ≤ 1) ∧ (iM_end.toInt ≤ niM_end.toInt) ∧ (ImpP (niM_token.toInt = 2) (niM_nameSize.toInt ≤ 8)) ∧ (iM_failed.toInt ≤ niM_failed.toInt) ∧ (ImpP (niM_failed.toInt ≤ 0 ∧ niM_token.toInt = 59 ) (iM_end.toInt + 1 ≤ niM_end.toInt)) ∧ (POk nfM_fresh nfM_read) ∧ (PX7_innerLine fM_tape iM_size iM_at iM_end iM_token iM_whole iM_nameSize iM_fault iM_place fM_letters iM_failed fM_fresh fM_read fM_fresher iM_fresherSize p0 = (niM_at, niM_end, niM_token, niM_whole, niM_nameSize, niM_fault, niM_place, niM_failed, niM_fresherSize, nfM_letters, nfM_fresh, nfM_read, nfM_fresher)) ∧ Bw dC dI A [(oc7 oM iM_thrown rM_tape iM_taped iM_size niM_at niM_end niM_token niM_whole niM_nameSize niM_fault niM_place iM_trouble rM_letters niM_failed iM_hasCourt rM_r rM_fresh rM_told rM_read rM_st rM_undone rM_kept iM_undos iM_images rM_fresher niM_fresherSize iM_scale iM_night rM_heardRow rM_cutRow iM_breaths iM_cutMany iM_allBreaths rM_trial rM_words iM_fewestBreaths iM_orderMany iM_orderSum iM_leastOrder rM_often iM_setMany iM_someOf iM_allOf iM_allWeight iM_enoughWeight iM_worthSum iM_firstRest iM_leastDrawn), (arI rM_tape kM_tape 900 fM_tape), (arI rM_letters kM_letters 8 nfM_letters), (arI rM_fresh kM_fresh 287 nfM_fresh), (arI rM_read kM_read 90 nfM_read), (arI rM_fresher kM_fresher 8 nfM_fresher)] [(kM_tape, .int), (kM_letters, .int), (kM_fresh, .int), (kM_read, .int), (kM_fresher, .int)] t) A) ([.ref oM, .int p0] : List Value).toArray s 0 0 A) (F0 m 45 ls []) := by
              intro n_6217
              induction n_6217 with
              | zero => intro z_6213 z_6214 z_6215 z_6216 H locs ls b_z_6214 hi0_n_6217 hi1_n_6217 hi2_n_6217 hm; exact absurd hm (Nat.not_lt_zero _)
              | succ n_6217 ih_n_6217 =>
                intro z_6213 z_6214 z_6215 z_6216 H locs ls b_z_6214 hi0_n_6217 hi1_n_6217 hi2_n_6217 hm_n_6217 hG hP hD hS hl
                have hG := hG.trans (HX7_innerLine_1_eq _ _ _ _ _ _ _ _ _ _ _ _ _ _ _ _ _ _ _ _ _ _)
                refine lv_iload hx hb dX7_innerLine_45 (lv_at hl 0 rfl) ?_
                refine lv_iload_n hx hb dX7_innerLine_47 rfl (lv_at hl 3 rfl) ?_
                refine lv_icmp_ge (tgt := 89) hx hb dX7_innerLine_48 (by decide) (fun c_6218 => ?_) (fun c_6218 => ?_)
                · skip
                  have hG := hG.trans (if_pos c_6218)
                  have gc_6218 := ti_le c_6218 rfl rfl
                  refine lv_aload_n hx hb dX7_innerLine_89 rfl (lv_at hl 5 rfl) ?_
                  refine va_get (D := (dC, dI)) (ci := 7) (v := .int z_6214) (C := RX7) (T := TX7) (N := 48) hx hb hts inX7 hown hK hP 0 rfl rfl 13 (by decide) (hts _ wd_380) (fun _ h9 => h9) rfl dX7_innerLine_90 ?_
                  refine lv_if_ne (tgt := 110) hx hb dX7_innerLine_93 (by decide) (fun c_6219 => ?_) (fun c_6219 => ?_)
                  · skip
                    have hG := hG.trans (if_neg c_6219)
                    have gc_6219 := ti_ne c_6219 rfl kc_0
                    replace gc_6219 : (-1) * z_6214.toInt + 1 ≤ 0 := om_e3003f79 gc_6219 b_z_6214.1
                    refine lv_aload_n hx hb dX7_innerLine_110 rfl (lv_at hl 5 rfl) ?_
                    have hMs := ml_of hD [true, true, true, false, false, false] (wc := [(oc7 oM iM_thrown rM_tape iM_taped iM_size z_6179 z_6180 z_6181 z_6182 z_6183 z_6215 z_6216 iM_trouble rM_letters z_6214 iM_hasCourt rM_r rM_fresh rM_told rM_read rM_st rM_undone rM_kept iM_undos iM_images rM_fresher x_6173 iM_scale iM_night rM_heardRow rM_cutRow iM_breaths iM_cutMany iM_allBreaths rM_trial rM_words iM_fewestBreaths iM_orderMany iM_orderSum iM_leastOrder rM_often iM_setMany iM_someOf iM_allOf iM_allWeight iM_enoughWeight iM_worthSum iM_firstRest iM_leastDrawn), (arI rM_tape kM_tape 900 fM_tape), (arI rM_letters kM_letters 8 f_6187)]) rfl
                    have hFc := va_freeM hD hS hA _ hMs
                    refine va_callv (va_runV (As := []) (rest := []) ⟨hx, hb, hml, hown, hts⟩ (tX7_pass l dC dI _ oM iM_thrown rM_tape fM_tape kM_tape iM_taped iM_size z_6179 z_6180 z_6181 z_6182 z_6183 z_6215 z_6216 iM_trouble rM_letters f_6187 kM_letters z_6214 iM_hasCourt rM_r rM_fresh rM_told rM_read rM_st rM_undone rM_kept iM_undos iM_images rM_fresher x_6173 iM_scale iM_night rM_heardRow rM_cutRow iM_breaths iM_cutMany iM_allBreaths rM_trial rM_words iM_fewestBreaths iM_orderMany iM_orderSum iM_leastOrder rM_often iM_setMany iM_someOf iM_allOf iM_allWeight iM_enoughWeight iM_worthSum iM_firstRest iM_leastDrawn b_iM_taped b_iM_size b_z_6180 b_z_6183 b_z_6214 b_iM_hasCourt b_iM_undos b_iM_images b_iM_scale b_iM_breaths b_iM_cutMany hi6_n_6190) (cwV 0 hts (wd_V wd_454 wd_455 wd_456 wd_5 (wd_c wd_457)) rfl rfl rfl dv_yX7_pass_0 ⟨Nat.le_of_ble_eq_true rfl, Nat.le_of_ble_eq_true rfl⟩) ⟨Pw.fb, recvX7 hK hP (q0 := 0) rfl, fun U hU hW => Pw.to (hP.ms _ hMs) (hD.ms _ hMs) (hK.ms [true, true, false, false, false] rfl) hE hS hFc hU hW⟩ rfl rfl hl.1 rfl (lv_room (Nat.le_of_ble_eq_true rfl)) dX7_innerLine_111 ⟨Nat.le_of_ble_eq_true rfl, Nat.le_of_ble_eq_true rfl⟩) hS (fun q _ h => hFc q h) hFc (fun u t H locs ht hvm hw hB hz1 hk1 hS => ?_)
                    refine ex_6_6 hB (fun x_6220 x_6221 x_6222 x_6223 x_6224 f_6225 b_x_6221 b_x_6224 e_x_6220_0 e_x_6220_1 e_x_6220_2 e_x_6220_3 hB => ?_)
                    obtain ⟨hP, hD⟩ := Bw.goN (ws' := [(oc7 oM iM_thrown rM_tape iM_taped iM_size x_6220 x_6221 x_6222 x_6223 x_6224 z_6215 z_6216 iM_trouble rM_letters z_6214 iM_hasCourt rM_r rM_fresh rM_told rM_read rM_st rM_undone rM_kept iM_undos iM_images rM_fresher x_6173 iM_scale iM_night rM_heardRow rM_cutRow iM_breaths iM_cutMany iM_allBreaths rM_trial rM_words iM_fewestBreaths iM_orderMany iM_orderSum iM_leastOrder rM_often iM_setMany iM_someOf iM_allOf iM_allWeight iM_enoughWeight iM_worthSum iM_firstRest iM_leastDrawn), (arI rM_tape kM_tape 900 fM_tape), (arI rM_letters kM_letters 8 f_6225), (arI rM_fresh kM_fresh 287 f_6188), (arI rM_read kM_read 90 f_6189), (arI rM_fresher kM_fresher 8 f_6175)]) hB rfl ht hP hD _ hMs hk1 hFc rfl
                    clear hz1 hk1 hvm ht hB hMs
                    have hG := hG.trans (un6_eq e_x_6220_3)
                    clear hi6_n_6190
                    clear hi8_n_6190
                    refine lv_iload_n hx hb dX7_innerLine_114 rfl (lv_at hl 6 rfl) ?_
                    refine lv_iconst (v := 3) hx hb dX7_innerLine_115 (by decide) ?_
                    refine lv_icmp_ne (tgt := 129) hx hb dX7_innerLine_116 (by decide) (fun c_6226 => ?_) (fun c_6226 => ?_)
                    · skip
                      have hG := hG.trans (if_neg c_6226)
                      have gc_6226 := ti_ne c_6226 rfl kc_3
                      replace gc_6226 : p0.toInt + (-2) ≤ 0 := om_b7ea5ffe gc_6226 hp0.2
                      clear hic
                      refine lv_iconst (v := 0) hx hb dX7_innerLine_129 (by decide) ?_
                      refine lv_istore (lv' := [(6, .int 0), (5, .int x_6212), (4, .int z_6178), (3, .int z_6177), (2, .int x_6176), (0, .ref oM), (1, .int p0)]) hx hb dX7_innerLine_130 hl (by decide) rfl (fun ls hl => ?_)
                      refine lv_aload_n hx hb dX7_innerLine_132 rfl (lv_at hl 5 rfl) ?_
                      refine va_get (D := (dC, dI)) (ci := 7) (v := .int z_6214) (C := RX7) (T := TX7) (N := 48) hx hb hts inX7 hown hK hP 0 rfl rfl 13 (by decide) (hts _ wd_380) (fun _ h9 => h9) rfl dX7_innerLine_133 ?_
                      refine lv_if_eq (tgt := 140) hx hb dX7_innerLine_136 (by decide) (fun c_6227 => ?_) (fun c_6227 => ?_)
                      · skip
                        have hG := hG.trans (if_pos c_6227)
                        have gc_6227 := ti_eq c_6227 rfl kc_0
                        exact ((om_77e4ddb5 gc_6219 gc_6227)).elim
                      · skip
                        have hG := hG.trans (if_neg c_6227)
                        have gc_6227 := ti_ne c_6227 rfl kc_0
                        replace gc_6227 : (-1) * z_6214.toInt + 1 ≤ 0 := om_e3003f79 gc_6227 b_z_6214.1
                        exact wq_v hx hb hr 0 trivial (fun t ht hW => ⟨x_6220, x_6221, x_6222, x_6223, x_6224, z_6215, z_6216, z_6214, x_6173, f_6225, f_6188, f_6189, f_6175, b_x_6221, b_x_6224, b_z_6214, (om_9348f5ae hi7_n_6190 e_x_6220_0), e_x_6220_1, (om_1fc3dec6 gc_6163 b_z_6214.1), (fun h9 => False.elim (om_a5fe015d gc_6219 h9.1)), hi2_n_6190, hG, Bw.to hP hD hK ht hW⟩) hS dX7_innerLine_139 hlocks
                    · skip
                      have hG := hG.trans (if_pos c_6226)
                      have gc_6226 := ti_eq c_6226 rfl kc_3
                      have h_6228 : (fM_fresh 8).toInt ≤ 1 := hic ⟨(om_02e9bb08 gc_6163), (om_ce492ef9 hp0.2 gc_6226)⟩
                      clear hic
                      refine lv_aload_n hx hb dX7_innerLine_119 rfl (lv_at hl 5 rfl) ?_
                      refine lv_iconst (v := 1) hx hb dX7_innerLine_120 (by decide) ?_
                      refine lv_bipush (v := 9) hx hb dX7_innerLine_121 (by decide) ?_
                      have hMs := ml_of hD [true, true, true, false, false, false] (wc := [(oc7 oM iM_thrown rM_tape iM_taped iM_size x_6220 x_6221 x_6222 x_6223 x_6224 z_6215 z_6216 iM_trouble rM_letters z_6214 iM_hasCourt rM_r rM_fresh rM_told rM_read rM_st rM_undone rM_kept iM_undos iM_images rM_fresher x_6173 iM_scale iM_night rM_heardRow rM_cutRow iM_breaths iM_cutMany iM_allBreaths rM_trial rM_words iM_fewestBreaths iM_orderMany iM_orderSum iM_leastOrder rM_often iM_setMany iM_someOf iM_allOf iM_allWeight iM_enoughWeight iM_worthSum iM_firstRest iM_leastDrawn), (arI rM_tape kM_tape 900 fM_tape), (arI rM_letters kM_letters 8 f_6225)]) rfl
                      have hFc := va_freeM hD hS hA _ hMs
                      refine va_calli (va_runV (As := [.int 1, .int 9]) (rest := []) ⟨hx, hb, hml, hown, hts⟩ (tX7_number l dC dI _ oM iM_thrown rM_tape fM_tape kM_tape iM_taped iM_size x_6220 x_6221 x_6222 x_6223 x_6224 z_6215 z_6216 iM_trouble rM_letters f_6225 kM_letters z_6214 iM_hasCourt rM_r rM_fresh rM_told rM_read rM_st rM_undone rM_kept iM_undos iM_images rM_fresher x_6173 iM_scale iM_night rM_heardRow rM_cutRow iM_breaths iM_cutMany iM_allBreaths rM_trial rM_words iM_fewestBreaths iM_orderMany iM_orderSum iM_leastOrder rM_often iM_setMany iM_someOf iM_allOf iM_allWeight iM_enoughWeight iM_worthSum iM_firstRest iM_leastDrawn 1 9 b_iM_taped b_iM_size b_x_6221 b_x_6224 b_z_6214 b_iM_hasCourt b_iM_undos b_iM_images b_iM_scale b_iM_breaths b_iM_cutMany e_x_6220_1 (om_dc317686 kc_1 kc_9)) (cwV 2 hts (wd_V wd_446 wd_447 wd_448 wd_5 (wd_c wd_449)) rfl rfl rfl dv_yX7_number_2 ⟨Nat.le_of_ble_eq_true rfl, Nat.le_of_ble_eq_true rfl⟩) ⟨Pw.fb, recvX7 hK hP (q0 := 0) rfl, fun U hU hW => Pw.to (hP.ms _ hMs) (hD.ms _ hMs) (hK.ms [true, true, false, false, false] rfl) hE hS hFc hU hW⟩ rfl rfl hl.1 rfl (lv_room (Nat.le_of_ble_eq_true rfl)) dX7_innerLine_123 ⟨Nat.le_of_ble_eq_true rfl, Nat.le_of_ble_eq_true rfl⟩) hS (fun q _ h => hFc q h) hFc (fun r u t H locs ht hvm hw hB hz1 hk1 hS => ?_)
                      have hru9 := hw.2
                      have hw := hw.1
                      refine ex_9_8 hB (fun x_6229 x_6230 x_6231 x_6232 x_6233 x_6234 x_6235 x_6236 f_6237 b_x_6230 b_x_6233 b_x_6236 e_x_6229_0 e_x_6229_1 e_x_6229_2 e_x_6229_3 e_x_6229_4 hB => ?_)
                      obtain ⟨hP, hD⟩ := Bw.goN (ws' := [(oc7 oM iM_thrown rM_tape iM_taped iM_size x_6229 x_6230 x_6231 x_6232 x_6233 x_6234 x_6235 iM_trouble rM_letters x_6236 iM_hasCourt rM_r rM_fresh rM_told rM_read rM_st rM_undone rM_kept iM_undos iM_images rM_fresher x_6173 iM_scale iM_night rM_heardRow rM_cutRow iM_breaths iM_cutMany iM_allBreaths rM_trial rM_words iM_fewestBreaths iM_orderMany iM_orderSum iM_leastOrder rM_often iM_setMany iM_someOf iM_allOf iM_allWeight iM_enoughWeight iM_worthSum iM_firstRest iM_leastDrawn), (arI rM_tape kM_tape 900 fM_tape), (arI rM_letters kM_letters 8 f_6237), (arI rM_fresh kM_fresh 287 f_6188), (arI rM_read kM_read 90 f_6189), (arI rM_fresher kM_fresher 8 f_6175)]) hB rfl ht hP hD _ hMs hk1 hFc rfl
                      clear hz1 hk1 hvm ht hB hMs
                      rw [← hru9] at e_x_6229_4
                      obtain ⟨x_6238, rfl⟩ : ∃ z, z = r := ⟨_, rfl⟩
                      have hG := hG.trans (un10_eq e_x_6229_4)
                      have lx_6238 := hw.2
                      have kl_1 := kc_1
                      have kl_9 := kc_9
                      clear e_x_6220_1
                      clear e_x_6220_2
                      refine lv_goto (tgt := 130) hx hb dX7_innerLine_126 (by decide) ?_
                      refine lv_istore (lv' := [(6, .int x_6238), (5, .int x_6212), (4, .int z_6178), (3, .int z_6177), (2, .int x_6176), (0, .ref oM), (1, .int p0)]) hx hb dX7_innerLine_130 hl (by decide) rfl (fun ls hl => ?_)
                      refine lv_aload_n hx hb dX7_innerLine_132 rfl (lv_at hl 5 rfl) ?_
                      refine va_get (D := (dC, dI)) (ci := 7) (v := .int x_6236) (C := RX7) (T := TX7) (N := 48) hx hb hts inX7 hown hK hP 0 rfl rfl 13 (by decide) (hts _ wd_380) (fun _ h9 => h9) rfl dX7_innerLine_133 ?_
                      refine lv_if_eq (tgt := 140) hx hb dX7_innerLine_136 (by decide) (fun c_6239 => ?_) (fun c_6239 => ?_)
                      · skip
                        have hG := hG.trans (if_pos c_6239)
                        have gc_6239 := ti_eq c_6239 rfl kc_0
                        exact ((om_30d40e72 gc_6219 e_x_6229_2 gc_6239)).elim
                      · skip
                        have hG := hG.trans (if_neg c_6239)
                        have gc_6239 := ti_ne c_6239 rfl kc_0
                        replace gc_6239 : (-1) * x_6236.toInt + 1 ≤ 0 := om_e3003f79 gc_6239 b_x_6236.1
                        exact wq_v hx hb hr 0 trivial (fun t ht hW => ⟨x_6229, x_6230, x_6231, x_6232, x_6233, x_6234, x_6235, x_6236, x_6173, f_6237, f_6188, f_6189, f_6175, b_x_6230, b_x_6233, b_x_6236, (om_622f2a87 hi7_n_6190 e_x_6220_0 e_x_6229_0), e_x_6229_1, (om_1fc3dec6 gc_6163 b_x_6236.1), (fun h9 => False.elim (om_a5fe015d gc_6239 h9.1)), hi2_n_6190, hG, Bw.to hP hD hK ht hW⟩) hS dX7_innerLine_139 hlocks
                  · skip
                    have hG := hG.trans (if_pos c_6219)
                    have gc_6219 := ti_eq c_6219 rfl kc_0
                    have h_6240 : 1 ≤ (f_6188 1).toInt := e_x_6209_1 (om_6c480895 hi1_n_6217 gc_6219)
                    clear e_x_6209_1
                    have h_6241 : x_6212.toInt < (f_6188 1).toInt := lx_6212.2.1 h_6240
                    refine lv_iload_n hx hb dX7_innerLine_96 rfl (lv_at hl 3 rfl) ?_
                    refine lv_iconst (v := 4) hx hb dX7_innerLine_97 (by decide) ?_
                    refine lv_icmp_ne (tgt := 110) hx hb dX7_innerLine_98 (by decide) (fun c_6242 => ?_) (fun c_6242 => ?_)
                    · skip
                      have hG := hG.trans (if_neg c_6242)
                      have gc_6242 := ti_ne c_6242 rfl kc_4
                      replace gc_6242 : z_6177.toInt + (-3) ≤ 0 := om_96839482 gc_6242 hi0_n_6190.2
                      refine lv_aload_n hx hb dX7_innerLine_110 rfl (lv_at hl 5 rfl) ?_
                      have hMs := ml_of hD [true, true, true, false, false, false] (wc := [(oc7 oM iM_thrown rM_tape iM_taped iM_size z_6179 z_6180 z_6181 z_6182 z_6183 z_6215 z_6216 iM_trouble rM_letters z_6214 iM_hasCourt rM_r rM_fresh rM_told rM_read rM_st rM_undone rM_kept iM_undos iM_images rM_fresher x_6173 iM_scale iM_night rM_heardRow rM_cutRow iM_breaths iM_cutMany iM_allBreaths rM_trial rM_words iM_fewestBreaths iM_orderMany iM_orderSum iM_leastOrder rM_often iM_setMany iM_someOf iM_allOf iM_allWeight iM_enoughWeight iM_worthSum iM_firstRest iM_leastDrawn), (arI rM_tape kM_tape 900 fM_tape), (arI rM_letters kM_letters 8 f_6187)]) rfl
                      have hFc := va_freeM hD hS hA _ hMs
                      refine va_callv (va_runV (As := []) (rest := []) ⟨hx, hb, hml, hown, hts⟩ (tX7_pass l dC dI _ oM iM_thrown rM_tape fM_tape kM_tape iM_taped iM_size z_6179 z_6180 z_6181 z_6182 z_6183 z_6215 z_6216 iM_trouble rM_letters f_6187 kM_letters z_6214 iM_hasCourt rM_r rM_fresh rM_told rM_read rM_st rM_undone rM_kept iM_undos iM_images rM_fresher x_6173 iM_scale iM_night rM_heardRow rM_cutRow iM_breaths iM_cutMany iM_allBreaths rM_trial rM_words iM_fewestBreaths iM_orderMany iM_orderSum iM_leastOrder rM_often iM_setMany iM_someOf iM_allOf iM_allWeight iM_enoughWeight iM_worthSum iM_firstRest iM_leastDrawn b_iM_taped b_iM_size b_z_6180 b_z_6183 b_z_6214 b_iM_hasCourt b_iM_undos b_iM_images b_iM_scale b_iM_breaths b_iM_cutMany hi6_n_6190) (cwV 0 hts (wd_V wd_454 wd_455 wd_456 wd_5 (wd_c wd_457)) rfl rfl rfl dv_yX7_pass_0 ⟨Nat.le_of_ble_eq_true rfl, Nat.le_of_ble_eq_true rfl⟩) ⟨Pw.fb, recvX7 hK hP (q0 := 0) rfl, fun U hU hW => Pw.to (hP.ms _ hMs) (hD.ms _ hMs) (hK.ms [true, true, false, false, false] rfl) hE hS hFc hU hW⟩ rfl rfl hl.1 rfl (lv_room (Nat.le_of_ble_eq_true rfl)) dX7_innerLine_111 ⟨Nat.le_of_ble_eq_true rfl, Nat.le_of_ble_eq_true rfl⟩) hS (fun q _ h => hFc q h) hFc (fun u t H locs ht hvm hw hB hz1 hk1 hS => ?_)
                      refine ex_6_6 hB (fun x_6243 x_6244 x_6245 x_6246 x_6247 f_6248 b_x_6244 b_x_6247 e_x_6243_0 e_x_6243_1 e_x_6243_2 e_x_6243_3 hB => ?_)
                      obtain ⟨hP, hD⟩ := Bw.goN (ws' := [(oc7 oM iM_thrown rM_tape iM_taped iM_size x_6243 x_6244 x_6245 x_6246 x_6247 z_6215 z_6216 iM_trouble rM_letters z_6214 iM_hasCourt rM_r rM_fresh rM_told rM_read rM_st rM_undone rM_kept iM_undos iM_images rM_fresher x_6173 iM_scale iM_night rM_heardRow rM_cutRow iM_breaths iM_cutMany iM_allBreaths rM_trial rM_words iM_fewestBreaths iM_orderMany iM_orderSum iM_leastOrder rM_often iM_setMany iM_someOf iM_allOf iM_allWeight iM_enoughWeight iM_worthSum iM_firstRest iM_leastDrawn), (arI rM_tape kM_tape 900 fM_tape), (arI rM_letters kM_letters 8 f_6248), (arI rM_fresh kM_fresh 287 f_6188), (arI rM_read kM_read 90 f_6189), (arI rM_fresher kM_fresher 8 f_6175)]) hB rfl ht hP hD _ hMs hk1 hFc rfl
                      clear hz1 hk1 hvm ht hB hMs
                      have hG := hG.trans (un6_eq e_x_6243_3)
                      clear hi6_n_6190
                      clear hi8_n_6190
                      refine lv_iload_n hx hb dX7_innerLine_114 rfl (lv_at hl 6 rfl) ?_
                      refine lv_iconst (v := 3) hx hb dX7_innerLine_115 (by decide) ?_
                      refine lv_icmp_ne (tgt := 129) hx hb dX7_innerLine_116 (by decide) (fun c_6249 => ?_) (fun c_6249 => ?_)
                      · skip
                        have hG := hG.trans (if_neg c_6249)
                        have gc_6249 := ti_ne c_6249 rfl kc_3
                        replace gc_6249 : p0.toInt + (-2) ≤ 0 := om_b7ea5ffe gc_6249 hp0.2
                        clear hic
                        refine lv_iconst (v := 0) hx hb dX7_innerLine_129 (by decide) ?_
                        refine lv_istore (lv' := [(6, .int 0), (5, .int x_6212), (4, .int z_6178), (3, .int z_6177), (2, .int x_6176), (0, .ref oM), (1, .int p0)]) hx hb dX7_innerLine_130 hl (by decide) rfl (fun ls hl => ?_)
                        refine lv_aload_n hx hb dX7_innerLine_132 rfl (lv_at hl 5 rfl) ?_
                        refine va_get (D := (dC, dI)) (ci := 7) (v := .int z_6214) (C := RX7) (T := TX7) (N := 48) hx hb hts inX7 hown hK hP 0 rfl rfl 13 (by decide) (hts _ wd_380) (fun _ h9 => h9) rfl dX7_innerLine_133 ?_
                        refine lv_if_eq (tgt := 140) hx hb dX7_innerLine_136 (by decide) (fun c_6250 => ?_) (fun c_6250 => ?_)
                        · skip
                          have hG := hG.trans (if_pos c_6250)
                          have gc_6250 := ti_eq c_6250 rfl kc_0
                          refine lv_aload_n hx hb dX7_innerLine_140 rfl (lv_at hl 5 rfl) ?_
                          refine va_get (D := (dC, dI)) (ci := 7) (v := .ref rM_read) (C := RX7) (T := TX7) (N := 48) hx hb hts inX7 hown hK hP 0 rfl rfl 18 (by decide) (hts _ wd_158) (fun _ h9 => h9) rfl dX7_innerLine_141 ?_
                          refine lv_iconst (v := 4) hx hb dX7_innerLine_144 (by decide) ?_
                          refine lv_iload_n hx hb dX7_innerLine_145 rfl (lv_at hl 4 rfl) ?_
                          refine lv_imul hx hb dX7_innerLine_146 ?_
                          refine lv_topi (fun x_6251 ex_6251 => ?_)
                          have hG := hG.trans (lt_eq ex_6251)
                          have vx_6251 : x_6251.toInt = 4 * x_6176.toInt := ti_mul ex_6251 kc_4 rfl (om_9e6bb6a4 pl_fM_fresh.2.2.2.2.1.1 pl_fM_fresh.2.2.2.2.1.2 cx_6176) (om_7d3cae7d pl_fM_fresh.2.1 pl_fM_fresh.2.2.1.2 pl_fM_fresh.2.2.2.2.2.1.2 cx_6176)
                          refine lv_iload_n hx hb dX7_innerLine_147 rfl (lv_at hl 3 rfl) ?_
                          refine lv_iadd hx hb dX7_innerLine_148 ?_
                          refine lv_topi (fun x_6252 ex_6252 => ?_)
                          have hG := hG.trans (lt_eq ex_6252)
                          have vx_6252 : x_6252.toInt = 4 * x_6176.toInt + z_6177.toInt := om_5d0caf0f (ti_add ex_6252 vx_6251 rfl (om_80a5d224 pl_fM_fresh.2.2.2.2.1.1 pl_fM_fresh.2.2.2.2.1.2 cx_6176 hi0_n_6190.1) (om_65488096 pl_fM_fresh.2.1 pl_fM_fresh.2.2.1.2 pl_fM_fresh.2.2.2.2.2.1.2 cx_6176 hi0_n_6190.2))
                          refine lv_iload hx hb dX7_innerLine_149 (lv_at hl 1 rfl) ?_
                          refine va_iast hx hb hK hP hD hS 4 3 rfl rfl (ti_in vx_6252 (om_dcc527d7 pl_fM_fresh.2.2.2.2.1.1 pl_fM_fresh.2.2.2.2.1.2 cx_6176 hi0_n_6190.1) (om_1343fdf1 pl_fM_fresh.2.1 pl_fM_fresh.2.2.1.2 pl_fM_fresh.2.2.2.2.2.1.2 cx_6176 hi0_n_6190.2)) dX7_innerLine_151 (fun H locs hP hD hS => ?_)
                          obtain ⟨f_6253, ef_6253⟩ : ∃ g : Nat → Int32, g = upd f_6189 x_6252.toNatClampNeg x_6212 := ⟨_, rfl⟩
                          rw [← ef_6253] at hP hD
                          have hG := hG.trans (lt_eq ef_6253)
                          obtain ⟨hP, hD⟩ := wl2 (ws' := [(oc7 oM iM_thrown rM_tape iM_taped iM_size x_6243 x_6244 x_6245 x_6246 x_6247 z_6215 z_6216 iM_trouble rM_letters z_6214 iM_hasCourt rM_r rM_fresh rM_told rM_read rM_st rM_undone rM_kept iM_undos iM_images rM_fresher x_6173 iM_scale iM_night rM_heardRow rM_cutRow iM_breaths iM_cutMany iM_allBreaths rM_trial rM_words iM_fewestBreaths iM_orderMany iM_orderSum iM_leastOrder rM_often iM_setMany iM_someOf iM_allOf iM_allWeight iM_enoughWeight iM_worthSum iM_firstRest iM_leastDrawn), (arI rM_tape kM_tape 900 fM_tape), (arI rM_letters kM_letters 8 f_6248), (arI rM_fresh kM_fresh 287 f_6188), (arI rM_read kM_read 90 f_6253), (arI rM_fresher kM_fresher 8 f_6175)]) hP hD rfl
                          have q_n1 := ti_cl (x := f_6188 1) rfl (by omega)
                          have pk_f_6253 : POk f_6188 f_6253 := POk.prt hi2_n_6190 ef_6253 (by have q9 := ti_cl (x := x_6252) vx_6252 (om_dcc527d7 pl_fM_fresh.2.2.2.2.1.1 pl_fM_fresh.2.2.2.2.1.2 cx_6176 hi0_n_6190.1); omega) (by have q9 := ti_cl (x := x_6252) vx_6252 (om_dcc527d7 pl_fM_fresh.2.2.2.2.1.1 pl_fM_fresh.2.2.2.2.1.2 cx_6176 hi0_n_6190.1); omega)
                          refine lv_aload_n hx hb dX7_innerLine_152 rfl (lv_at hl 5 rfl) ?_
                          refine va_get (D := (dC, dI)) (ci := 7) (v := .ref rM_fresh) (C := RX7) (T := TX7) (N := 48) hx hb hts inX7 hown hK hP 0 rfl rfl 16 (by decide) (hts _ wd_156) (fun _ h9 => h9) rfl dX7_innerLine_153 ?_
                          refine lv_bipush (v := 45) hx hb dX7_innerLine_156 (by decide) ?_
                          refine lv_iconst (v := 4) hx hb dX7_innerLine_158 (by decide) ?_
                          refine lv_iload_n hx hb dX7_innerLine_159 rfl (lv_at hl 4 rfl) ?_
                          refine lv_imul hx hb dX7_innerLine_160 ?_
                          refine lv_topi (fun x_6254 ex_6254 => ?_)
                          have hG := hG.trans (lt_eq ex_6254)
                          have vx_6254 : x_6254.toInt = 4 * x_6176.toInt := ti_mul ex_6254 kc_4 rfl (om_9e6bb6a4 pl_fM_fresh.2.2.2.2.1.1 pl_fM_fresh.2.2.2.2.1.2 cx_6176) (om_7d3cae7d pl_fM_fresh.2.1 pl_fM_fresh.2.2.1.2 pl_fM_fresh.2.2.2.2.2.1.2 cx_6176)
                          refine lv_iadd hx hb dX7_innerLine_161 ?_
                          refine lv_topi (fun x_6255 ex_6255 => ?_)
                          have hG := hG.trans (lt_eq ex_6255)
                          have vx_6255 : x_6255.toInt = 4 * x_6176.toInt + 45 := om_702bf7ac (ti_add ex_6255 kc_45 vx_6254 (om_0c5ad906 pl_fM_fresh.2.2.2.2.1.1 pl_fM_fresh.2.2.2.2.1.2 cx_6176) (om_5da1924c pl_fM_fresh.2.1 pl_fM_fresh.2.2.1.2 pl_fM_fresh.2.2.2.2.2.1.2 cx_6176))
                          refine lv_iload_n hx hb dX7_innerLine_162 rfl (lv_at hl 3 rfl) ?_
                          refine lv_iadd hx hb dX7_innerLine_163 ?_
                          refine lv_topi (fun x_6256 ex_6256 => ?_)
                          have hG := hG.trans (lt_eq ex_6256)
                          have vx_6256 : x_6256.toInt = 4 * x_6176.toInt + z_6177.toInt + 45 := om_0ab12ad6 (ti_add ex_6256 vx_6255 rfl (om_563b8554 pl_fM_fresh.2.2.2.2.1.1 pl_fM_fresh.2.2.2.2.1.2 cx_6176 hi0_n_6190.1) (om_87f6ba8c pl_fM_fresh.2.1 pl_fM_fresh.2.2.1.2 pl_fM_fresh.2.2.2.2.2.1.2 cx_6176 hi0_n_6190.2))
                          refine lv_iload hx hb dX7_innerLine_164 (lv_at hl 0 rfl) ?_
                          refine va_iast hx hb hK hP hD hS 3 2 rfl rfl (ti_in vx_6256 (om_d2c9edc5 pl_fM_fresh.2.2.2.2.1.1 pl_fM_fresh.2.2.2.2.1.2 cx_6176 hi0_n_6190.1) (om_21e450b4 pl_fM_fresh.2.1 pl_fM_fresh.2.2.1.2 pl_fM_fresh.2.2.2.2.2.1.2 cx_6176 hi0_n_6190.2)) dX7_innerLine_166 (fun H locs hP hD hS => ?_)
                          obtain ⟨f_6257, ef_6257⟩ : ∃ g : Nat → Int32, g = upd f_6188 x_6256.toNatClampNeg (0 : Int32) := ⟨_, rfl⟩
                          rw [← ef_6257] at hP hD
                          have hG := hG.trans (lt_eq ef_6257)
                          obtain ⟨hP, hD⟩ := wl2 (ws' := [(oc7 oM iM_thrown rM_tape iM_taped iM_size x_6243 x_6244 x_6245 x_6246 x_6247 z_6215 z_6216 iM_trouble rM_letters z_6214 iM_hasCourt rM_r rM_fresh rM_told rM_read rM_st rM_undone rM_kept iM_undos iM_images rM_fresher x_6173 iM_scale iM_night rM_heardRow rM_cutRow iM_breaths iM_cutMany iM_allBreaths rM_trial rM_words iM_fewestBreaths iM_orderMany iM_orderSum iM_leastOrder rM_often iM_setMany iM_someOf iM_allOf iM_allWeight iM_enoughWeight iM_worthSum iM_firstRest iM_leastDrawn), (arI rM_tape kM_tape 900 fM_tape), (arI rM_letters kM_letters 8 f_6248), (arI rM_fresh kM_fresh 287 f_6257), (arI rM_read kM_read 90 f_6253), (arI rM_fresher kM_fresher 8 f_6175)]) hP hD rfl
                          have pk_f_6257 : POk f_6257 f_6253 := POk.put pk_f_6253 ef_6257 (Or.inr (Or.inr (Or.inr (Or.inr (Or.inr (Or.inl (by have q9 := ti_cl (x := x_6256) vx_6256 (om_d2c9edc5 pl_fM_fresh.2.2.2.2.1.1 pl_fM_fresh.2.2.2.2.1.2 cx_6176 hi0_n_6190.1); have q8 := kc_0; omega)))))))
                          have pl_f_6257 := pk_f_6257.lins
                          have nn9 : (f_6188 1).toNatClampNeg = x_6176.toNatClampNeg := by have q1 := ti_cl (x := x_6176) rfl (om_1ab2c227 pl_fM_fresh.2.2.2.2.1.1 pl_fM_fresh.2.2.2.2.1.2 cx_6176); have q2 := ti_cl (x := f_6188 1) rfl (by omega); have q3 := ti_cl (x := z_6177) rfl hi0_n_6190.1; omega
                          have in9 : InOk f_6257 f_6253 (f_6257 1).toNatClampNeg (z_6177.toNatClampNeg + 1) p0.toInt := in_step hi3_n_6190 rfl ef_6253 (by have q1 := ti_cl (x := x_6176) rfl (om_1ab2c227 pl_fM_fresh.2.2.2.2.1.1 pl_fM_fresh.2.2.2.2.1.2 cx_6176); have q2 := ti_cl (x := f_6188 1) rfl (by omega); have q3 := ti_cl (x := z_6177) rfl hi0_n_6190.1; have q9 := ti_cl (x := x_6252) vx_6252 (om_dcc527d7 pl_fM_fresh.2.2.2.2.1.1 pl_fM_fresh.2.2.2.2.1.2 cx_6176 hi0_n_6190.1); omega) ef_6257 (by have q1 := ti_cl (x := x_6176) rfl (om_1ab2c227 pl_fM_fresh.2.2.2.2.1.1 pl_fM_fresh.2.2.2.2.1.2 cx_6176); have q2 := ti_cl (x := f_6188 1) rfl (by omega); have q3 := ti_cl (x := z_6177) rfl hi0_n_6190.1; have q9 := ti_cl (x := x_6256) vx_6256 (om_d2c9edc5 pl_fM_fresh.2.2.2.2.1.1 pl_fM_fresh.2.2.2.2.1.2 cx_6176 hi0_n_6190.1); omega) (by omega) (by have q1 := ti_cl (x := x_6176) rfl (om_1ab2c227 pl_fM_fresh.2.2.2.2.1.1 pl_fM_fresh.2.2.2.2.1.2 cx_6176); have q2 := ti_cl (x := f_6188 1) rfl (by omega); have q3 := ti_cl (x := z_6177) rfl hi0_n_6190.1; omega) (fun i9 h9 => by rw [nn9]; exact hi2_n_6217 (by omega) i9 (by have q1 := ti_cl (x := x_6176) rfl (om_1ab2c227 pl_fM_fresh.2.2.2.2.1.1 pl_fM_fresh.2.2.2.2.1.2 cx_6176); have q2 := ti_cl (x := f_6188 1) rfl (by omega); have q3 := ti_cl (x := z_6177) rfl hi0_n_6190.1; have q4 := ti_cl (x := z_6213) rfl hi0_n_6217.1; omega)) (fun h9 => by have q0 := kc_0; omega) rfl
                          have o1_f_6257 : (f_6257 1).toInt = (f_6188 1).toInt := put_at ef_6257 (Nat.ne_of_lt (om_9b872883 (ti_cl (x := x_6256) vx_6256 (om_d2c9edc5 pl_fM_fresh.2.2.2.2.1.1 pl_fM_fresh.2.2.2.2.1.2 cx_6176 hi0_n_6190.1)) pl_fM_fresh.2.2.2.2.1.1 pl_fM_fresh.2.2.2.2.1.2 cx_6176 hi0_n_6190.1))
                          have o7_f_6257 : (f_6257 7).toInt = (f_6188 7).toInt := put_at ef_6257 (Nat.ne_of_lt (om_58da8a1c (ti_cl (x := x_6256) vx_6256 (om_d2c9edc5 pl_fM_fresh.2.2.2.2.1.1 pl_fM_fresh.2.2.2.2.1.2 cx_6176 hi0_n_6190.1)) pl_fM_fresh.2.2.2.2.1.1 pl_fM_fresh.2.2.2.2.1.2 cx_6176 hi0_n_6190.1))
                          have o8_f_6257 : (f_6257 8).toInt = (f_6188 8).toInt := put_at ef_6257 (Nat.ne_of_lt (om_f4400bad (ti_cl (x := x_6256) vx_6256 (om_d2c9edc5 pl_fM_fresh.2.2.2.2.1.1 pl_fM_fresh.2.2.2.2.1.2 cx_6176 hi0_n_6190.1)) pl_fM_fresh.2.2.2.2.1.1 pl_fM_fresh.2.2.2.2.1.2 cx_6176 hi0_n_6190.1))
                          obtain ⟨x_6258, ex_6258⟩ : ∃ z : Int32, z = z_6177 + Int32.ofInt 1 := ⟨_, rfl⟩
                          have hG := hG.trans (lt_eq ex_6258)
                          have vx_6258 : x_6258.toInt = z_6177.toInt + 1 := ti_add (y := 1) ex_6258 rfl kc_1 (om_4e4fce7e hi0_n_6190.1) (om_bae2951a hi0_n_6190.2)
                          refine lv_iinc (v := x_6258) (lv' := [(3, .int x_6258), (6, .int 0), (5, .int x_6212), (4, .int z_6178), (2, .int x_6176), (0, .ref oM), (1, .int p0)]) hx hb dX7_innerLine_167 hl (k := 3) rfl ex_6258.symm (by decide) rfl (fun ls hl => ?_)
                          refine lv_aload_n hx hb dX7_innerLine_170 rfl (lv_at hl 5 rfl) ?_
                          refine va_get (D := (dC, dI)) (ci := 7) (v := .int x_6245) (C := RX7) (T := TX7) (N := 48) hx hb hts inX7 hown hK hP 0 rfl rfl 6 (by decide) (hts _ wd_383) (fun _ h9 => h9) rfl dX7_innerLine_171 ?_
                          refine lv_bipush (v := 44) hx hb dX7_innerLine_174 (by decide) ?_
                          refine lv_icmp_ne (tgt := 183) hx hb dX7_innerLine_176 (by decide) (fun c_6259 => ?_) (fun c_6259 => ?_)
                          · skip
                            have hG := hG.trans (if_neg c_6259)
                            have gc_6259 := ti_ne c_6259 rfl kc_44
                            clear gc_6259
                            refine lv_iconst (v := 0) hx hb dX7_innerLine_183 (by decide) ?_
                            refine lv_istore (lv' := [(4, .int 0), (3, .int x_6258), (6, .int 0), (5, .int x_6212), (2, .int x_6176), (0, .ref oM), (1, .int p0)]) hx hb dX7_innerLine_184 hl (by decide) rfl (fun ls hl => ?_)
                            refine lv_iload hx hb dX7_innerLine_186 (lv_at hl 0 rfl) ?_
                            refine lv_if_eq (tgt := 195) hx hb dX7_innerLine_188 (by decide) (fun _ => ?_) (fun c => absurd c (by decide))
                            refine lv_goto (tgt := 24) hx hb dX7_innerLine_195 (by decide) ?_
                            exact ih_n_6190 x_6258 0 x_6243 x_6244 x_6245 x_6246 x_6247 z_6215 z_6216 z_6214 f_6248 f_6257 f_6253 _ _ _ b_x_6244 b_x_6247 b_z_6214 ⟨(om_83b90de5 hi0_n_6190.1 vx_6258), (om_2c69d3de gc_6242 vx_6258)⟩ ⟨(om_b1de7dbe kc_0), (om_270f4ea0 kc_0)⟩ (by assumption) (by rw [show x_6258.toNatClampNeg = z_6177.toNatClampNeg + 1 from (by have q1 := ti_cl (x := x_6258) vx_6258 (om_9548a8fd hi0_n_6190.1); have q2 := ti_cl (x := z_6177) rfl hi0_n_6190.1; omega)]; exact in9) ⟨(om_216d7917 hi4_n_6190.1 o1_f_6257), (om_216d7917 hi4_n_6190.2.1 o7_f_6257), (om_216d7917 hi4_n_6190.2.2 o8_f_6257)⟩ (fun h9 => (om_285f573d hi0_n_6190.1 vx_6258)) e_x_6243_1 (om_9348f5ae hi7_n_6190 e_x_6243_0) (fun h9 => (om_7ed234da hi7_n_6190 (e_x_6243_2 ⟨(om_02e9bb08 gc_6219), h9.2⟩))) (ms_lt hm_n_6190 (om_ed22490e vx_6258) (om_36ac28fa gc_6242)) hG hP hD hS (lv_sub hl [0, 1, 4, 5, 6] rfl)
                          · skip
                            have hG := hG.trans (if_pos c_6259)
                            have gc_6259 := ti_eq c_6259 rfl kc_44
                            refine lv_iconst (v := 1) hx hb dX7_innerLine_179 (by decide) ?_
                            refine lv_goto (tgt := 184) hx hb dX7_innerLine_180 (by decide) ?_
                            refine lv_istore (lv' := [(4, .int 1), (3, .int x_6258), (6, .int 0), (5, .int x_6212), (2, .int x_6176), (0, .ref oM), (1, .int p0)]) hx hb dX7_innerLine_184 hl (by decide) rfl (fun ls hl => ?_)
                            refine lv_iload hx hb dX7_innerLine_186 (lv_at hl 0 rfl) ?_
                            refine lv_if_eq (tgt := 195) hx hb dX7_innerLine_188 (by decide) (fun c => absurd c (by decide)) (fun _ => ?_)
                            refine lv_aload_n hx hb dX7_innerLine_191 rfl (lv_at hl 5 rfl) ?_
                            have hMs := ml_of hD [true, true, true, false, false, false] (wc := [(oc7 oM iM_thrown rM_tape iM_taped iM_size x_6243 x_6244 x_6245 x_6246 x_6247 z_6215 z_6216 iM_trouble rM_letters z_6214 iM_hasCourt rM_r rM_fresh rM_told rM_read rM_st rM_undone rM_kept iM_undos iM_images rM_fresher x_6173 iM_scale iM_night rM_heardRow rM_cutRow iM_breaths iM_cutMany iM_allBreaths rM_trial rM_words iM_fewestBreaths iM_orderMany iM_orderSum iM_leastOrder rM_often iM_setMany iM_someOf iM_allOf iM_allWeight iM_enoughWeight iM_worthSum iM_firstRest iM_leastDrawn), (arI rM_tape kM_tape 900 fM_tape), (arI rM_letters kM_letters 8 f_6248)]) rfl
                            have hFc := va_freeM hD hS hA _ hMs
                            refine va_callv (va_runV (As := []) (rest := []) ⟨hx, hb, hml, hown, hts⟩ (tX7_next l dC dI _ oM iM_thrown rM_tape fM_tape kM_tape iM_taped iM_size x_6243 x_6244 x_6245 x_6246 x_6247 z_6215 z_6216 iM_trouble rM_letters f_6248 kM_letters z_6214 iM_hasCourt rM_r rM_fresh rM_told rM_read rM_st rM_undone rM_kept iM_undos iM_images rM_fresher x_6173 iM_scale iM_night rM_heardRow rM_cutRow iM_breaths iM_cutMany iM_allBreaths rM_trial rM_words iM_fewestBreaths iM_orderMany iM_orderSum iM_leastOrder rM_often iM_setMany iM_someOf iM_allOf iM_allWeight iM_enoughWeight iM_worthSum iM_firstRest iM_leastDrawn b_iM_taped b_iM_size b_x_6244 b_x_6247 b_z_6214 b_iM_hasCourt b_iM_undos b_iM_images b_iM_scale b_iM_breaths b_iM_cutMany e_x_6243_1) (cwV 0 hts (wd_V wd_400 wd_401 wd_402 wd_5 (wd_c wd_403)) rfl rfl rfl dv_yX7_next_0 ⟨Nat.le_of_ble_eq_true rfl, Nat.le_of_ble_eq_true rfl⟩) ⟨Pw.fb, recvX7 hK hP (q0 := 0) rfl, fun U hU hW => Pw.to (hP.ms _ hMs) (hD.ms _ hMs) (hK.ms [true, true, false, false, false] rfl) hE hS hFc hU hW⟩ rfl rfl hl.1 rfl (lv_room (Nat.le_of_ble_eq_true rfl)) dX7_innerLine_192 ⟨Nat.le_of_ble_eq_true rfl, Nat.le_of_ble_eq_true rfl⟩) hS (fun q _ h => hFc q h) hFc (fun u t H locs ht hvm hw hB hz1 hk1 hS => ?_)
                            refine ex_6_6 hB (fun x_6262 x_6263 x_6264 x_6265 x_6266 f_6267 b_x_6263 b_x_6266 e_x_6262_0 e_x_6262_1 e_x_6262_2 e_x_6262_3 hB => ?_)
                            obtain ⟨hP, hD⟩ := Bw.goN (ws' := [(oc7 oM iM_thrown rM_tape iM_taped iM_size x_6262 x_6263 x_6264 x_6265 x_6266 z_6215 z_6216 iM_trouble rM_letters z_6214 iM_hasCourt rM_r rM_fresh rM_told rM_read rM_st rM_undone rM_kept iM_undos iM_images rM_fresher x_6173 iM_scale iM_night rM_heardRow rM_cutRow iM_breaths iM_cutMany iM_allBreaths rM_trial rM_words iM_fewestBreaths iM_orderMany iM_orderSum iM_leastOrder rM_often iM_setMany iM_someOf iM_allOf iM_allWeight iM_enoughWeight iM_worthSum iM_firstRest iM_leastDrawn), (arI rM_tape kM_tape 900 fM_tape), (arI rM_letters kM_letters 8 f_6267), (arI rM_fresh kM_fresh 287 f_6257), (arI rM_read kM_read 90 f_6253), (arI rM_fresher kM_fresher 8 f_6175)]) hB rfl ht hP hD _ hMs hk1 hFc rfl
                            clear hz1 hk1 hvm ht hB hMs
                            have hG := hG.trans (un6_eq e_x_6262_3)
                            clear e_x_6243_1
                            clear e_x_6243_2
                            refine lv_goto (tgt := 24) hx hb dX7_innerLine_195 (by decide) ?_
                            exact ih_n_6190 x_6258 1 x_6262 x_6263 x_6264 x_6265 x_6266 z_6215 z_6216 z_6214 f_6267 f_6257 f_6253 _ _ _ b_x_6263 b_x_6266 b_z_6214 ⟨(om_83b90de5 hi0_n_6190.1 vx_6258), (om_2c69d3de gc_6242 vx_6258)⟩ ⟨(om_1b364b1c kc_1), (om_02032f93 kc_1)⟩ (by assumption) (by rw [show x_6258.toNatClampNeg = z_6177.toNatClampNeg + 1 from (by have q1 := ti_cl (x := x_6258) vx_6258 (om_9548a8fd hi0_n_6190.1); have q2 := ti_cl (x := z_6177) rfl hi0_n_6190.1; omega)]; exact in9) ⟨(om_216d7917 hi4_n_6190.1 o1_f_6257), (om_216d7917 hi4_n_6190.2.1 o7_f_6257), (om_216d7917 hi4_n_6190.2.2 o8_f_6257)⟩ (fun h9 => (om_285f573d hi0_n_6190.1 vx_6258)) e_x_6262_1 (om_622f2a87 hi7_n_6190 e_x_6243_0 e_x_6262_0) (fun h9 => (om_2d38588c hi7_n_6190 e_x_6243_0 (e_x_6262_2 h9.2))) (ms_lt hm_n_6190 (om_ed22490e vx_6258) (om_36ac28fa gc_6242)) hG hP hD hS (lv_sub hl [0, 1, 4, 5, 6] rfl)
                        · skip
                          have hG := hG.trans (if_neg c_6250)
                          have gc_6250 := ti_ne c_6250 rfl kc_0
                          replace gc_6250 : z_6214.toInt + 1 ≤ 0 := om_f992525b gc_6250 gc_6219
                          exact ((om_5185113d b_z_6214.1 gc_6250)).elim
                      · skip
                        have hG := hG.trans (if_pos c_6249)
                        have gc_6249 := ti_eq c_6249 rfl kc_3
                        have h_6268 : (fM_fresh 8).toInt ≤ 1 := hic ⟨(om_02e9bb08 gc_6163), (om_ce492ef9 hp0.2 gc_6249)⟩
                        clear hic
                        refine lv_aload_n hx hb dX7_innerLine_119 rfl (lv_at hl 5 rfl) ?_
                        refine lv_iconst (v := 1) hx hb dX7_innerLine_120 (by decide) ?_
                        refine lv_bipush (v := 9) hx hb dX7_innerLine_121 (by decide) ?_
                        have hMs := ml_of hD [true, true, true, false, false, false] (wc := [(oc7 oM iM_thrown rM_tape iM_taped iM_size x_6243 x_6244 x_6245 x_6246 x_6247 z_6215 z_6216 iM_trouble rM_letters z_6214 iM_hasCourt rM_r rM_fresh rM_told rM_read rM_st rM_undone rM_kept iM_undos iM_images rM_fresher x_6173 iM_scale iM_night rM_heardRow rM_cutRow iM_breaths iM_cutMany iM_allBreaths rM_trial rM_words iM_fewestBreaths iM_orderMany iM_orderSum iM_leastOrder rM_often iM_setMany iM_someOf iM_allOf iM_allWeight iM_enoughWeight iM_worthSum iM_firstRest iM_leastDrawn), (arI rM_tape kM_tape 900 fM_tape), (arI rM_letters kM_letters 8 f_6248)]) rfl
                        have hFc := va_freeM hD hS hA _ hMs
                        refine va_calli (va_runV (As := [.int 1, .int 9]) (rest := []) ⟨hx, hb, hml, hown, hts⟩ (tX7_number l dC dI _ oM iM_thrown rM_tape fM_tape kM_tape iM_taped iM_size x_6243 x_6244 x_6245 x_6246 x_6247 z_6215 z_6216 iM_trouble rM_letters f_6248 kM_letters z_6214 iM_hasCourt rM_r rM_fresh rM_told rM_read rM_st rM_undone rM_kept iM_undos iM_images rM_fresher x_6173 iM_scale iM_night rM_heardRow rM_cutRow iM_breaths iM_cutMany iM_allBreaths rM_trial rM_words iM_fewestBreaths iM_orderMany iM_orderSum iM_leastOrder rM_often iM_setMany iM_someOf iM_allOf iM_allWeight iM_enoughWeight iM_worthSum iM_firstRest iM_leastDrawn 1 9 b_iM_taped b_iM_size b_x_6244 b_x_6247 b_z_6214 b_iM_hasCourt b_iM_undos b_iM_images b_iM_scale b_iM_breaths b_iM_cutMany e_x_6243_1 (om_dc317686 kc_1 kc_9)) (cwV 2 hts (wd_V wd_446 wd_447 wd_448 wd_5 (wd_c wd_449)) rfl rfl rfl dv_yX7_number_2 ⟨Nat.le_of_ble_eq_true rfl, Nat.le_of_ble_eq_true rfl⟩) ⟨Pw.fb, recvX7 hK hP (q0 := 0) rfl, fun U hU hW => Pw.to (hP.ms _ hMs) (hD.ms _ hMs) (hK.ms [true, true, false, false, false] rfl) hE hS hFc hU hW⟩ rfl rfl hl.1 rfl (lv_room (Nat.le_of_ble_eq_true rfl)) dX7_innerLine_123 ⟨Nat.le_of_ble_eq_true rfl, Nat.le_of_ble_eq_true rfl⟩) hS (fun q _ h => hFc q h) hFc (fun r u t H locs ht hvm hw hB hz1 hk1 hS => ?_)
                        have hru9 := hw.2
                        have hw := hw.1
                        refine ex_9_8 hB (fun x_6269 x_6270 x_6271 x_6272 x_6273 x_6274 x_6275 x_6276 f_6277 b_x_6270 b_x_6273 b_x_6276 e_x_6269_0 e_x_6269_1 e_x_6269_2 e_x_6269_3 e_x_6269_4 hB => ?_)
                        obtain ⟨hP, hD⟩ := Bw.goN (ws' := [(oc7 oM iM_thrown rM_tape iM_taped iM_size x_6269 x_6270 x_6271 x_6272 x_6273 x_6274 x_6275 iM_trouble rM_letters x_6276 iM_hasCourt rM_r rM_fresh rM_told rM_read rM_st rM_undone rM_kept iM_undos iM_images rM_fresher x_6173 iM_scale iM_night rM_heardRow rM_cutRow iM_breaths iM_cutMany iM_allBreaths rM_trial rM_words iM_fewestBreaths iM_orderMany iM_orderSum iM_leastOrder rM_often iM_setMany iM_someOf iM_allOf iM_allWeight iM_enoughWeight iM_worthSum iM_firstRest iM_leastDrawn), (arI rM_tape kM_tape 900 fM_tape), (arI rM_letters kM_letters 8 f_6277), (arI rM_fresh kM_fresh 287 f_6188), (arI rM_read kM_read 90 f_6189), (arI rM_fresher kM_fresher 8 f_6175)]) hB rfl ht hP hD _ hMs hk1 hFc rfl
                        clear hz1 hk1 hvm ht hB hMs
                        rw [← hru9] at e_x_6269_4
                        obtain ⟨x_6278, rfl⟩ : ∃ z, z = r := ⟨_, rfl⟩
                        have hG := hG.trans (un10_eq e_x_6269_4)
                        have lx_6278 := hw.2
                        have kl_1 := kc_1
                        have kl_9 := kc_9
                        clear e_x_6243_1
                        clear e_x_6243_2
                        refine lv_goto (tgt := 130) hx hb dX7_innerLine_126 (by decide) ?_
                        refine lv_istore (lv' := [(6, .int x_6278), (5, .int x_6212), (4, .int z_6178), (3, .int z_6177), (2, .int x_6176), (0, .ref oM), (1, .int p0)]) hx hb dX7_innerLine_130 hl (by decide) rfl (fun ls hl => ?_)
                        refine lv_aload_n hx hb dX7_innerLine_132 rfl (lv_at hl 5 rfl) ?_
                        refine va_get (D := (dC, dI)) (ci := 7) (v := .int x_6276) (C := RX7) (T := TX7) (N := 48) hx hb hts inX7 hown hK hP 0 rfl rfl 13 (by decide) (hts _ wd_380) (fun _ h9 => h9) rfl dX7_innerLine_133 ?_
                        refine lv_if_eq (tgt := 140) hx hb dX7_innerLine_136 (by decide) (fun c_6279 => ?_) (fun c_6279 => ?_)
                        · skip
                          have hG := hG.trans (if_pos c_6279)
                          have gc_6279 := ti_eq c_6279 rfl kc_0
                          refine lv_aload_n hx hb dX7_innerLine_140 rfl (lv_at hl 5 rfl) ?_
                          refine va_get (D := (dC, dI)) (ci := 7) (v := .ref rM_read) (C := RX7) (T := TX7) (N := 48) hx hb hts inX7 hown hK hP 0 rfl rfl 18 (by decide) (hts _ wd_158) (fun _ h9 => h9) rfl dX7_innerLine_141 ?_
                          refine lv_iconst (v := 4) hx hb dX7_innerLine_144 (by decide) ?_
                          refine lv_iload_n hx hb dX7_innerLine_145 rfl (lv_at hl 4 rfl) ?_
                          refine lv_imul hx hb dX7_innerLine_146 ?_
                          refine lv_topi (fun x_6280 ex_6280 => ?_)
                          have hG := hG.trans (lt_eq ex_6280)
                          have vx_6280 : x_6280.toInt = 4 * x_6176.toInt := ti_mul ex_6280 kc_4 rfl (om_9e6bb6a4 pl_fM_fresh.2.2.2.2.1.1 pl_fM_fresh.2.2.2.2.1.2 cx_6176) (om_7d3cae7d pl_fM_fresh.2.1 pl_fM_fresh.2.2.1.2 pl_fM_fresh.2.2.2.2.2.1.2 cx_6176)
                          refine lv_iload_n hx hb dX7_innerLine_147 rfl (lv_at hl 3 rfl) ?_
                          refine lv_iadd hx hb dX7_innerLine_148 ?_
                          refine lv_topi (fun x_6281 ex_6281 => ?_)
                          have hG := hG.trans (lt_eq ex_6281)
                          have vx_6281 : x_6281.toInt = 4 * x_6176.toInt + z_6177.toInt := om_5d0caf0f (ti_add ex_6281 vx_6280 rfl (om_80a5d224 pl_fM_fresh.2.2.2.2.1.1 pl_fM_fresh.2.2.2.2.1.2 cx_6176 hi0_n_6190.1) (om_65488096 pl_fM_fresh.2.1 pl_fM_fresh.2.2.1.2 pl_fM_fresh.2.2.2.2.2.1.2 cx_6176 hi0_n_6190.2))
                          refine lv_iload hx hb dX7_innerLine_149 (lv_at hl 1 rfl) ?_
                          refine va_iast hx hb hK hP hD hS 4 3 rfl rfl (ti_in vx_6281 (om_dcc527d7 pl_fM_fresh.2.2.2.2.1.1 pl_fM_fresh.2.2.2.2.1.2 cx_6176 hi0_n_6190.1) (om_1343fdf1 pl_fM_fresh.2.1 pl_fM_fresh.2.2.1.2 pl_fM_fresh.2.2.2.2.2.1.2 cx_6176 hi0_n_6190.2)) dX7_innerLine_151 (fun H locs hP hD hS => ?_)
                          obtain ⟨f_6282, ef_6282⟩ : ∃ g : Nat → Int32, g = upd f_6189 x_6281.toNatClampNeg x_6212 := ⟨_, rfl⟩
                          rw [← ef_6282] at hP hD
                          have hG := hG.trans (lt_eq ef_6282)
                          obtain ⟨hP, hD⟩ := wl2 (ws' := [(oc7 oM iM_thrown rM_tape iM_taped iM_size x_6269 x_6270 x_6271 x_6272 x_6273 x_6274 x_6275 iM_trouble rM_letters x_6276 iM_hasCourt rM_r rM_fresh rM_told rM_read rM_st rM_undone rM_kept iM_undos iM_images rM_fresher x_6173 iM_scale iM_night rM_heardRow rM_cutRow iM_breaths iM_cutMany iM_allBreaths rM_trial rM_words iM_fewestBreaths iM_orderMany iM_orderSum iM_leastOrder rM_often iM_setMany iM_someOf iM_allOf iM_allWeight iM_enoughWeight iM_worthSum iM_firstRest iM_leastDrawn), (arI rM_tape kM_tape 900 fM_tape), (arI rM_letters kM_letters 8 f_6277), (arI rM_fresh kM_fresh 287 f_6188), (arI rM_read kM_read 90 f_6282), (arI rM_fresher kM_fresher 8 f_6175)]) hP hD rfl
                          have q_n1 := ti_cl (x := f_6188 1) rfl (by omega)
                          have pk_f_6282 : POk f_6188 f_6282 := POk.prt hi2_n_6190 ef_6282 (by have q9 := ti_cl (x := x_6281) vx_6281 (om_dcc527d7 pl_fM_fresh.2.2.2.2.1.1 pl_fM_fresh.2.2.2.2.1.2 cx_6176 hi0_n_6190.1); omega) (by have q9 := ti_cl (x := x_6281) vx_6281 (om_dcc527d7 pl_fM_fresh.2.2.2.2.1.1 pl_fM_fresh.2.2.2.2.1.2 cx_6176 hi0_n_6190.1); omega)
                          refine lv_aload_n hx hb dX7_innerLine_152 rfl (lv_at hl 5 rfl) ?_
                          refine va_get (D := (dC, dI)) (ci := 7) (v := .ref rM_fresh) (C := RX7) (T := TX7) (N := 48) hx hb hts inX7 hown hK hP 0 rfl rfl 16 (by decide) (hts _ wd_156) (fun _ h9 => h9) rfl dX7_innerLine_153 ?_
                          refine lv_bipush (v := 45) hx hb dX7_innerLine_156 (by decide) ?_
                          refine lv_iconst (v := 4) hx hb dX7_innerLine_158 (by decide) ?_
                          refine lv_iload_n hx hb dX7_innerLine_159 rfl (lv_at hl 4 rfl) ?_
                          refine lv_imul hx hb dX7_innerLine_160 ?_
                          refine lv_topi (fun x_6283 ex_6283 => ?_)
                          have hG := hG.trans (lt_eq ex_6283)
                          have vx_6283 : x_6283.toInt = 4 * x_6176.toInt := ti_mul ex_6283 kc_4 rfl (om_9e6bb6a4 pl_fM_fresh.2.2.2.2.1.1 pl_fM_fresh.2.2.2.2.1.2 cx_6176) (om_7d3cae7d pl_fM_fresh.2.1 pl_fM_fresh.2.2.1.2 pl_fM_fresh.2.2.2.2.2.1.2 cx_6176)
                          refine lv_iadd hx hb dX7_innerLine_161 ?_
                          refine lv_topi (fun x_6284 ex_6284 => ?_)
                          have hG := hG.trans (lt_eq ex_6284)
                          have vx_6284 : x_6284.toInt = 4 * x_6176.toInt + 45 := om_702bf7ac (ti_add ex_6284 kc_45 vx_6283 (om_0c5ad906 pl_fM_fresh.2.2.2.2.1.1 pl_fM_fresh.2.2.2.2.1.2 cx_6176) (om_5da1924c pl_fM_fresh.2.1 pl_fM_fresh.2.2.1.2 pl_fM_fresh.2.2.2.2.2.1.2 cx_6176))
                          refine lv_iload_n hx hb dX7_innerLine_162 rfl (lv_at hl 3 rfl) ?_
                          refine lv_iadd hx hb dX7_innerLine_163 ?_
                          refine lv_topi (fun x_6285 ex_6285 => ?_)
                          have hG := hG.trans (lt_eq ex_6285)
                          have vx_6285 : x_6285.toInt = 4 * x_6176.toInt + z_6177.toInt + 45 := om_0ab12ad6 (ti_add ex_6285 vx_6284 rfl (om_563b8554 pl_fM_fresh.2.2.2.2.1.1 pl_fM_fresh.2.2.2.2.1.2 cx_6176 hi0_n_6190.1) (om_87f6ba8c pl_fM_fresh.2.1 pl_fM_fresh.2.2.1.2 pl_fM_fresh.2.2.2.2.2.1.2 cx_6176 hi0_n_6190.2))
                          refine lv_iload hx hb dX7_innerLine_164 (lv_at hl 0 rfl) ?_
                          refine va_iast hx hb hK hP hD hS 3 2 rfl rfl (ti_in vx_6285 (om_d2c9edc5 pl_fM_fresh.2.2.2.2.1.1 pl_fM_fresh.2.2.2.2.1.2 cx_6176 hi0_n_6190.1) (om_21e450b4 pl_fM_fresh.2.1 pl_fM_fresh.2.2.1.2 pl_fM_fresh.2.2.2.2.2.1.2 cx_6176 hi0_n_6190.2)) dX7_innerLine_166 (fun H locs hP hD hS => ?_)
                          obtain ⟨f_6286, ef_6286⟩ : ∃ g : Nat → Int32, g = upd f_6188 x_6285.toNatClampNeg x_6278 := ⟨_, rfl⟩
                          rw [← ef_6286] at hP hD
                          have hG := hG.trans (lt_eq ef_6286)
                          obtain ⟨hP, hD⟩ := wl2 (ws' := [(oc7 oM iM_thrown rM_tape iM_taped iM_size x_6269 x_6270 x_6271 x_6272 x_6273 x_6274 x_6275 iM_trouble rM_letters x_6276 iM_hasCourt rM_r rM_fresh rM_told rM_read rM_st rM_undone rM_kept iM_undos iM_images rM_fresher x_6173 iM_scale iM_night rM_heardRow rM_cutRow iM_breaths iM_cutMany iM_allBreaths rM_trial rM_words iM_fewestBreaths iM_orderMany iM_orderSum iM_leastOrder rM_often iM_setMany iM_someOf iM_allOf iM_allWeight iM_enoughWeight iM_worthSum iM_firstRest iM_leastDrawn), (arI rM_tape kM_tape 900 fM_tape), (arI rM_letters kM_letters 8 f_6277), (arI rM_fresh kM_fresh 287 f_6286), (arI rM_read kM_read 90 f_6282), (arI rM_fresher kM_fresher 8 f_6175)]) hP hD rfl
                          have pk_f_6286 : POk f_6286 f_6282 := POk.put pk_f_6282 ef_6286 (Or.inr (Or.inr (Or.inr (Or.inr (Or.inr (Or.inl (by have q9 := ti_cl (x := x_6285) vx_6285 (om_d2c9edc5 pl_fM_fresh.2.2.2.2.1.1 pl_fM_fresh.2.2.2.2.1.2 cx_6176 hi0_n_6190.1); omega)))))))
                          have pl_f_6286 := pk_f_6286.lins
                          have nn9 : (f_6188 1).toNatClampNeg = x_6176.toNatClampNeg := by have q1 := ti_cl (x := x_6176) rfl (om_1ab2c227 pl_fM_fresh.2.2.2.2.1.1 pl_fM_fresh.2.2.2.2.1.2 cx_6176); have q2 := ti_cl (x := f_6188 1) rfl (by omega); have q3 := ti_cl (x := z_6177) rfl hi0_n_6190.1; omega
                          have in9 : InOk f_6286 f_6282 (f_6286 1).toNatClampNeg (z_6177.toNatClampNeg + 1) p0.toInt := in_step hi3_n_6190 rfl ef_6282 (by have q1 := ti_cl (x := x_6176) rfl (om_1ab2c227 pl_fM_fresh.2.2.2.2.1.1 pl_fM_fresh.2.2.2.2.1.2 cx_6176); have q2 := ti_cl (x := f_6188 1) rfl (by omega); have q3 := ti_cl (x := z_6177) rfl hi0_n_6190.1; have q9 := ti_cl (x := x_6281) vx_6281 (om_dcc527d7 pl_fM_fresh.2.2.2.2.1.1 pl_fM_fresh.2.2.2.2.1.2 cx_6176 hi0_n_6190.1); omega) ef_6286 (by have q1 := ti_cl (x := x_6176) rfl (om_1ab2c227 pl_fM_fresh.2.2.2.2.1.1 pl_fM_fresh.2.2.2.2.1.2 cx_6176); have q2 := ti_cl (x := f_6188 1) rfl (by omega); have q3 := ti_cl (x := z_6177) rfl hi0_n_6190.1; have q9 := ti_cl (x := x_6285) vx_6285 (om_d2c9edc5 pl_fM_fresh.2.2.2.2.1.1 pl_fM_fresh.2.2.2.2.1.2 cx_6176 hi0_n_6190.1); omega) (by omega) (by have q1 := ti_cl (x := x_6176) rfl (om_1ab2c227 pl_fM_fresh.2.2.2.2.1.1 pl_fM_fresh.2.2.2.2.1.2 cx_6176); have q2 := ti_cl (x := f_6188 1) rfl (by omega); have q3 := ti_cl (x := z_6177) rfl hi0_n_6190.1; omega) (fun i9 h9 => by rw [nn9]; exact hi2_n_6217 (by omega) i9 (by have q1 := ti_cl (x := x_6176) rfl (om_1ab2c227 pl_fM_fresh.2.2.2.2.1.1 pl_fM_fresh.2.2.2.2.1.2 cx_6176); have q2 := ti_cl (x := f_6188 1) rfl (by omega); have q3 := ti_cl (x := z_6177) rfl hi0_n_6190.1; have q4 := ti_cl (x := z_6213) rfl hi0_n_6217.1; omega)) (fun h9 => by have q0 := kc_0; omega) rfl
                          have o1_f_6286 : (f_6286 1).toInt = (f_6188 1).toInt := put_at ef_6286 (Nat.ne_of_lt (om_9b872883 (ti_cl (x := x_6285) vx_6285 (om_d2c9edc5 pl_fM_fresh.2.2.2.2.1.1 pl_fM_fresh.2.2.2.2.1.2 cx_6176 hi0_n_6190.1)) pl_fM_fresh.2.2.2.2.1.1 pl_fM_fresh.2.2.2.2.1.2 cx_6176 hi0_n_6190.1))
                          have o7_f_6286 : (f_6286 7).toInt = (f_6188 7).toInt := put_at ef_6286 (Nat.ne_of_lt (om_58da8a1c (ti_cl (x := x_6285) vx_6285 (om_d2c9edc5 pl_fM_fresh.2.2.2.2.1.1 pl_fM_fresh.2.2.2.2.1.2 cx_6176 hi0_n_6190.1)) pl_fM_fresh.2.2.2.2.1.1 pl_fM_fresh.2.2.2.2.1.2 cx_6176 hi0_n_6190.1))
                          have o8_f_6286 : (f_6286 8).toInt = (f_6188 8).toInt := put_at ef_6286 (Nat.ne_of_lt (om_f4400bad (ti_cl (x := x_6285) vx_6285 (om_d2c9edc5 pl_fM_fresh.2.2.2.2.1.1 pl_fM_fresh.2.2.2.2.1.2 cx_6176 hi0_n_6190.1)) pl_fM_fresh.2.2.2.2.1.1 pl_fM_fresh.2.2.2.2.1.2 cx_6176 hi0_n_6190.1))
                          obtain ⟨x_6287, ex_6287⟩ : ∃ z : Int32, z = z_6177 + Int32.ofInt 1 := ⟨_, rfl⟩
                          have hG := hG.trans (lt_eq ex_6287)
                          have vx_6287 : x_6287.toInt = z_6177.toInt + 1 := ti_add (y := 1) ex_6287 rfl kc_1 (om_4e4fce7e hi0_n_6190.1) (om_bae2951a hi0_n_6190.2)
                          refine lv_iinc (v := x_6287) (lv' := [(3, .int x_6287), (6, .int x_6278), (5, .int x_6212), (4, .int z_6178), (2, .int x_6176), (0, .ref oM), (1, .int p0)]) hx hb dX7_innerLine_167 hl (k := 3) rfl ex_6287.symm (by decide) rfl (fun ls hl => ?_)
                          refine lv_aload_n hx hb dX7_innerLine_170 rfl (lv_at hl 5 rfl) ?_
                          refine va_get (D := (dC, dI)) (ci := 7) (v := .int x_6271) (C := RX7) (T := TX7) (N := 48) hx hb hts inX7 hown hK hP 0 rfl rfl 6 (by decide) (hts _ wd_383) (fun _ h9 => h9) rfl dX7_innerLine_171 ?_
                          refine lv_bipush (v := 44) hx hb dX7_innerLine_174 (by decide) ?_
                          refine lv_icmp_ne (tgt := 183) hx hb dX7_innerLine_176 (by decide) (fun c_6288 => ?_) (fun c_6288 => ?_)
                          · skip
                            have hG := hG.trans (if_neg c_6288)
                            have gc_6288 := ti_ne c_6288 rfl kc_44
                            clear gc_6288
                            refine lv_iconst (v := 0) hx hb dX7_innerLine_183 (by decide) ?_
                            refine lv_istore (lv' := [(4, .int 0), (3, .int x_6287), (6, .int x_6278), (5, .int x_6212), (2, .int x_6176), (0, .ref oM), (1, .int p0)]) hx hb dX7_innerLine_184 hl (by decide) rfl (fun ls hl => ?_)
                            refine lv_iload hx hb dX7_innerLine_186 (lv_at hl 0 rfl) ?_
                            refine lv_if_eq (tgt := 195) hx hb dX7_innerLine_188 (by decide) (fun _ => ?_) (fun c => absurd c (by decide))
                            refine lv_goto (tgt := 24) hx hb dX7_innerLine_195 (by decide) ?_
                            exact ih_n_6190 x_6287 0 x_6269 x_6270 x_6271 x_6272 x_6273 x_6274 x_6275 x_6276 f_6277 f_6286 f_6282 _ _ _ b_x_6270 b_x_6273 b_x_6276 ⟨(om_83b90de5 hi0_n_6190.1 vx_6287), (om_2c69d3de gc_6242 vx_6287)⟩ ⟨(om_b1de7dbe kc_0), (om_270f4ea0 kc_0)⟩ (by assumption) (by rw [show x_6287.toNatClampNeg = z_6177.toNatClampNeg + 1 from (by have q1 := ti_cl (x := x_6287) vx_6287 (om_9548a8fd hi0_n_6190.1); have q2 := ti_cl (x := z_6177) rfl hi0_n_6190.1; omega)]; exact in9) ⟨(om_216d7917 hi4_n_6190.1 o1_f_6286), (om_216d7917 hi4_n_6190.2.1 o7_f_6286), (om_216d7917 hi4_n_6190.2.2 o8_f_6286)⟩ (fun h9 => (om_285f573d hi0_n_6190.1 vx_6287)) e_x_6269_1 (om_622f2a87 hi7_n_6190 e_x_6243_0 e_x_6269_0) (fun h9 => (om_2d38588c hi7_n_6190 e_x_6243_0 (e_x_6269_3 ⟨(om_02e9bb08 gc_6279), h9.2⟩))) (ms_lt hm_n_6190 (om_ed22490e vx_6287) (om_36ac28fa gc_6242)) hG hP hD hS (lv_sub hl [0, 1, 4, 5, 6] rfl)
                          · skip
                            have hG := hG.trans (if_pos c_6288)
                            have gc_6288 := ti_eq c_6288 rfl kc_44
                            refine lv_iconst (v := 1) hx hb dX7_innerLine_179 (by decide) ?_
                            refine lv_goto (tgt := 184) hx hb dX7_innerLine_180 (by decide) ?_
                            refine lv_istore (lv' := [(4, .int 1), (3, .int x_6287), (6, .int x_6278), (5, .int x_6212), (2, .int x_6176), (0, .ref oM), (1, .int p0)]) hx hb dX7_innerLine_184 hl (by decide) rfl (fun ls hl => ?_)
                            refine lv_iload hx hb dX7_innerLine_186 (lv_at hl 0 rfl) ?_
                            refine lv_if_eq (tgt := 195) hx hb dX7_innerLine_188 (by decide) (fun c => absurd c (by decide)) (fun _ => ?_)
                            refine lv_aload_n hx hb dX7_innerLine_191 rfl (lv_at hl 5 rfl) ?_
                            have hMs := ml_of hD [true, true, true, false, false, false] (wc := [(oc7 oM iM_thrown rM_tape iM_taped iM_size x_6269 x_6270 x_6271 x_6272 x_6273 x_6274 x_6275 iM_trouble rM_letters x_6276 iM_hasCourt rM_r rM_fresh rM_told rM_read rM_st rM_undone rM_kept iM_undos iM_images rM_fresher x_6173 iM_scale iM_night rM_heardRow rM_cutRow iM_breaths iM_cutMany iM_allBreaths rM_trial rM_words iM_fewestBreaths iM_orderMany iM_orderSum iM_leastOrder rM_often iM_setMany iM_someOf iM_allOf iM_allWeight iM_enoughWeight iM_worthSum iM_firstRest iM_leastDrawn), (arI rM_tape kM_tape 900 fM_tape), (arI rM_letters kM_letters 8 f_6277)]) rfl
                            have hFc := va_freeM hD hS hA _ hMs
                            refine va_callv (va_runV (As := []) (rest := []) ⟨hx, hb, hml, hown, hts⟩ (tX7_next l dC dI _ oM iM_thrown rM_tape fM_tape kM_tape iM_taped iM_size x_6269 x_6270 x_6271 x_6272 x_6273 x_6274 x_6275 iM_trouble rM_letters f_6277 kM_letters x_6276 iM_hasCourt rM_r rM_fresh rM_told rM_read rM_st rM_undone rM_kept iM_undos iM_images rM_fresher x_6173 iM_scale iM_night rM_heardRow rM_cutRow iM_breaths iM_cutMany iM_allBreaths rM_trial rM_words iM_fewestBreaths iM_orderMany iM_orderSum iM_leastOrder rM_often iM_setMany iM_someOf iM_allOf iM_allWeight iM_enoughWeight iM_worthSum iM_firstRest iM_leastDrawn b_iM_taped b_iM_size b_x_6270 b_x_6273 b_x_6276 b_iM_hasCourt b_iM_undos b_iM_images b_iM_scale b_iM_breaths b_iM_cutMany e_x_6269_1) (cwV 0 hts (wd_V wd_400 wd_401 wd_402 wd_5 (wd_c wd_403)) rfl rfl rfl dv_yX7_next_0 ⟨Nat.le_of_ble_eq_true rfl, Nat.le_of_ble_eq_true rfl⟩) ⟨Pw.fb, recvX7 hK hP (q0 := 0) rfl, fun U hU hW => Pw.to (hP.ms _ hMs) (hD.ms _ hMs) (hK.ms [true, true, false, false, false] rfl) hE hS hFc hU hW⟩ rfl rfl hl.1 rfl (lv_room (Nat.le_of_ble_eq_true rfl)) dX7_innerLine_192 ⟨Nat.le_of_ble_eq_true rfl, Nat.le_of_ble_eq_true rfl⟩) hS (fun q _ h => hFc q h) hFc (fun u t H locs ht hvm hw hB hz1 hk1 hS => ?_)
                            refine ex_6_6 hB (fun x_6291 x_6292 x_6293 x_6294 x_6295 f_6296 b_x_6292 b_x_6295 e_x_6291_0 e_x_6291_1 e_x_6291_2 e_x_6291_3 hB => ?_)
                            obtain ⟨hP, hD⟩ := Bw.goN (ws' := [(oc7 oM iM_thrown rM_tape iM_taped iM_size x_6291 x_6292 x_6293 x_6294 x_6295 x_6274 x_6275 iM_trouble rM_letters x_6276 iM_hasCourt rM_r rM_fresh rM_told rM_read rM_st rM_undone rM_kept iM_undos iM_images rM_fresher x_6173 iM_scale iM_night rM_heardRow rM_cutRow iM_breaths iM_cutMany iM_allBreaths rM_trial rM_words iM_fewestBreaths iM_orderMany iM_orderSum iM_leastOrder rM_often iM_setMany iM_someOf iM_allOf iM_allWeight iM_enoughWeight iM_worthSum iM_firstRest iM_leastDrawn), (arI rM_tape kM_tape 900 fM_tape), (arI rM_letters kM_letters 8 f_6296), (arI rM_fresh kM_fresh 287 f_6286), (arI rM_read kM_read 90 f_6282), (arI rM_fresher kM_fresher 8 f_6175)]) hB rfl ht hP hD _ hMs hk1 hFc rfl
                            clear hz1 hk1 hvm ht hB hMs
                            have hG := hG.trans (un6_eq e_x_6291_3)
                            clear e_x_6269_1
                            clear e_x_6269_3
                            refine lv_goto (tgt := 24) hx hb dX7_innerLine_195 (by decide) ?_
                            exact ih_n_6190 x_6287 1 x_6291 x_6292 x_6293 x_6294 x_6295 x_6274 x_6275 x_6276 f_6296 f_6286 f_6282 _ _ _ b_x_6292 b_x_6295 b_x_6276 ⟨(om_83b90de5 hi0_n_6190.1 vx_6287), (om_2c69d3de gc_6242 vx_6287)⟩ ⟨(om_1b364b1c kc_1), (om_02032f93 kc_1)⟩ (by assumption) (by rw [show x_6287.toNatClampNeg = z_6177.toNatClampNeg + 1 from (by have q1 := ti_cl (x := x_6287) vx_6287 (om_9548a8fd hi0_n_6190.1); have q2 := ti_cl (x := z_6177) rfl hi0_n_6190.1; omega)]; exact in9) ⟨(om_216d7917 hi4_n_6190.1 o1_f_6286), (om_216d7917 hi4_n_6190.2.1 o7_f_6286), (om_216d7917 hi4_n_6190.2.2 o8_f_6286)⟩ (fun h9 => (om_285f573d hi0_n_6190.1 vx_6287)) e_x_6291_1 (om_dc41b317 hi7_n_6190 e_x_6243_0 e_x_6269_0 e_x_6291_0) (fun h9 => (om_67b34c44 hi7_n_6190 e_x_6243_0 e_x_6269_0 (e_x_6291_2 h9.2))) (ms_lt hm_n_6190 (om_ed22490e vx_6287) (om_36ac28fa gc_6242)) hG hP hD hS (lv_sub hl [0, 1, 4, 5, 6] rfl)
                        · skip
                          have hG := hG.trans (if_neg c_6279)
                          have gc_6279 := ti_ne c_6279 rfl kc_0
                          replace gc_6279 : (-1) * x_6276.toInt + 1 ≤ 0 := om_e3003f79 gc_6279 b_x_6276.1
                          exact wq_v hx hb hr 0 trivial (fun t ht hW => ⟨x_6269, x_6270, x_6271, x_6272, x_6273, x_6274, x_6275, x_6276, x_6173, f_6277, f_6188, f_6189, f_6175, b_x_6270, b_x_6273, b_x_6276, (om_622f2a87 hi7_n_6190 e_x_6243_0 e_x_6269_0), e_x_6269_1, (om_1fc3dec6 gc_6163 b_x_6276.1), (fun h9 => False.elim (om_a5fe015d gc_6279 h9.1)), hi2_n_6190, hG, Bw.to hP hD hK ht hW⟩) hS dX7_innerLine_139 hlocks
                    · skip
                      have hG := hG.trans (if_pos c_6242)
                      have gc_6242 := ti_eq c_6242 rfl kc_4
                      refine lv_aload_n hx hb dX7_innerLine_101 rfl (lv_at hl 5 rfl) ?_
                      refine lv_iconst (v := 5) hx hb dX7_innerLine_102 (by decide) ?_
                      refine lv_aload_n hx hb dX7_innerLine_103 rfl (lv_at hl 5 rfl) ?_
                      refine va_get (D := (dC, dI)) (ci := 7) (v := .int z_6179) (C := RX7) (T := TX7) (N := 48) hx hb hts inX7 hown hK hP 0 rfl rfl 4 (by decide) (hts _ wd_384) (fun _ h9 => h9) rfl dX7_innerLine_104 ?_
                      have hMs := ml_of hD [true, false, false, false, false, false] (wc := [(oc7 oM iM_thrown rM_tape iM_taped iM_size z_6179 z_6180 z_6181 z_6182 z_6183 z_6215 z_6216 iM_trouble rM_letters z_6214 iM_hasCourt rM_r rM_fresh rM_told rM_read rM_st rM_undone rM_kept iM_undos iM_images rM_fresher x_6173 iM_scale iM_night rM_heardRow rM_cutRow iM_breaths iM_cutMany iM_allBreaths rM_trial rM_words iM_fewestBreaths iM_orderMany iM_orderSum iM_leastOrder rM_often iM_setMany iM_someOf iM_allOf iM_allWeight iM_enoughWeight iM_worthSum iM_firstRest iM_leastDrawn)]) rfl
                      have hFc := va_freeM hD hS hA _ hMs
                      refine va_callv (va_runV (As := [.int 5, .int z_6179]) (rest := []) ⟨hx, hb, hml, hown, hts⟩ (tX7_wrong l dC dI _ oM iM_thrown rM_tape iM_taped iM_size z_6179 z_6180 z_6181 z_6182 z_6183 z_6215 z_6216 iM_trouble rM_letters z_6214 iM_hasCourt rM_r rM_fresh rM_told rM_read rM_st rM_undone rM_kept iM_undos iM_images rM_fresher x_6173 iM_scale iM_night rM_heardRow rM_cutRow iM_breaths iM_cutMany iM_allBreaths rM_trial rM_words iM_fewestBreaths iM_orderMany iM_orderSum iM_leastOrder rM_often iM_setMany iM_someOf iM_allOf iM_allWeight iM_enoughWeight iM_worthSum iM_firstRest iM_leastDrawn 5 z_6179 b_iM_taped b_iM_size b_z_6180 b_z_6183 b_z_6214 b_iM_hasCourt b_iM_undos b_iM_images b_iM_scale b_iM_breaths b_iM_cutMany hi6_n_6190) (cwV 2 hts (wd_V wd_430 wd_431 wd_432 wd_5 (wd_c wd_433)) rfl rfl rfl dv_yX7_wrong_2 ⟨Nat.le_of_ble_eq_true rfl, Nat.le_of_ble_eq_true rfl⟩) ⟨Pw.fb, recvX7 hK hP (q0 := 0) rfl, fun U hU hW => Pw.to (hP.ms _ hMs) (hD.ms _ hMs) (hK.ms [false, false, false, false, false] rfl) hE hS hFc hU hW⟩ rfl rfl hl.1 rfl (lv_room (Nat.le_of_ble_eq_true rfl)) dX7_innerLine_107 ⟨Nat.le_of_ble_eq_true rfl, Nat.le_of_ble_eq_true rfl⟩) hS (fun q _ h => hFc q h) hFc (fun u t H locs ht hvm hw hB hz1 hk1 hS => ?_)
                      refine ex_3_3 hB (fun x_6297 x_6298 x_6299 b_x_6299 e_x_6297_0 e_x_6297_1 hB => ?_)
                      obtain ⟨hP, hD⟩ := Bw.goN (ws' := [(oc7 oM iM_thrown rM_tape iM_taped iM_size z_6179 z_6180 z_6181 z_6182 z_6183 x_6297 x_6298 iM_trouble rM_letters x_6299 iM_hasCourt rM_r rM_fresh rM_told rM_read rM_st rM_undone rM_kept iM_undos iM_images rM_fresher x_6173 iM_scale iM_night rM_heardRow rM_cutRow iM_breaths iM_cutMany iM_allBreaths rM_trial rM_words iM_fewestBreaths iM_orderMany iM_orderSum iM_leastOrder rM_often iM_setMany iM_someOf iM_allOf iM_allWeight iM_enoughWeight iM_worthSum iM_firstRest iM_leastDrawn), (arI rM_tape kM_tape 900 fM_tape), (arI rM_letters kM_letters 8 f_6187), (arI rM_fresh kM_fresh 287 f_6188), (arI rM_read kM_read 90 f_6189), (arI rM_fresher kM_fresher 8 f_6175)]) hB rfl ht hP hD _ hMs hk1 hFc rfl
                      clear hz1 hk1 hvm ht hB hMs
                      have hG := hG.trans (un3_eq e_x_6297_1)
                      refine lv_aload_n hx hb dX7_innerLine_110 rfl (lv_at hl 5 rfl) ?_
                      have hMs := ml_of hD [true, true, true, false, false, false] (wc := [(oc7 oM iM_thrown rM_tape iM_taped iM_size z_6179 z_6180 z_6181 z_6182 z_6183 x_6297 x_6298 iM_trouble rM_letters x_6299 iM_hasCourt rM_r rM_fresh rM_told rM_read rM_st rM_undone rM_kept iM_undos iM_images rM_fresher x_6173 iM_scale iM_night rM_heardRow rM_cutRow iM_breaths iM_cutMany iM_allBreaths rM_trial rM_words iM_fewestBreaths iM_orderMany iM_orderSum iM_leastOrder rM_often iM_setMany iM_someOf iM_allOf iM_allWeight iM_enoughWeight iM_worthSum iM_firstRest iM_leastDrawn), (arI rM_tape kM_tape 900 fM_tape), (arI rM_letters kM_letters 8 f_6187)]) rfl
                      have hFc := va_freeM hD hS hA _ hMs
                      refine va_callv (va_runV (As := []) (rest := []) ⟨hx, hb, hml, hown, hts⟩ (tX7_pass l dC dI _ oM iM_thrown rM_tape fM_tape kM_tape iM_taped iM_size z_6179 z_6180 z_6181 z_6182 z_6183 x_6297 x_6298 iM_trouble rM_letters f_6187 kM_letters x_6299 iM_hasCourt rM_r rM_fresh rM_told rM_read rM_st rM_undone rM_kept iM_undos iM_images rM_fresher x_6173 iM_scale iM_night rM_heardRow rM_cutRow iM_breaths iM_cutMany iM_allBreaths rM_trial rM_words iM_fewestBreaths iM_orderMany iM_orderSum iM_leastOrder rM_often iM_setMany iM_someOf iM_allOf iM_allWeight iM_enoughWeight iM_worthSum iM_firstRest iM_leastDrawn b_iM_taped b_iM_size b_z_6180 b_z_6183 b_x_6299 b_iM_hasCourt b_iM_undos b_iM_images b_iM_scale b_iM_breaths b_iM_cutMany hi6_n_6190) (cwV 0 hts (wd_V wd_454 wd_455 wd_456 wd_5 (wd_c wd_457)) rfl rfl rfl dv_yX7_pass_0 ⟨Nat.le_of_ble_eq_true rfl, Nat.le_of_ble_eq_true rfl⟩) ⟨Pw.fb, recvX7 hK hP (q0 := 0) rfl, fun U hU hW => Pw.to (hP.ms _ hMs) (hD.ms _ hMs) (hK.ms [true, true, false, false, false] rfl) hE hS hFc hU hW⟩ rfl rfl hl.1 rfl (lv_room (Nat.le_of_ble_eq_true rfl)) dX7_innerLine_111 ⟨Nat.le_of_ble_eq_true rfl, Nat.le_of_ble_eq_true rfl⟩) hS (fun q _ h => hFc q h) hFc (fun u t H locs ht hvm hw hB hz1 hk1 hS => ?_)
                      refine ex_6_6 hB (fun x_6300 x_6301 x_6302 x_6303 x_6304 f_6305 b_x_6301 b_x_6304 e_x_6300_0 e_x_6300_1 e_x_6300_2 e_x_6300_3 hB => ?_)
                      obtain ⟨hP, hD⟩ := Bw.goN (ws' := [(oc7 oM iM_thrown rM_tape iM_taped iM_size x_6300 x_6301 x_6302 x_6303 x_6304 x_6297 x_6298 iM_trouble rM_letters x_6299 iM_hasCourt rM_r rM_fresh rM_told rM_read rM_st rM_undone rM_kept iM_undos iM_images rM_fresher x_6173 iM_scale iM_night rM_heardRow rM_cutRow iM_breaths iM_cutMany iM_allBreaths rM_trial rM_words iM_fewestBreaths iM_orderMany iM_orderSum iM_leastOrder rM_often iM_setMany iM_someOf iM_allOf iM_allWeight iM_enoughWeight iM_worthSum iM_firstRest iM_leastDrawn), (arI rM_tape kM_tape 900 fM_tape), (arI rM_letters kM_letters 8 f_6305), (arI rM_fresh kM_fresh 287 f_6188), (arI rM_read kM_read 90 f_6189), (arI rM_fresher kM_fresher 8 f_6175)]) hB rfl ht hP hD _ hMs hk1 hFc rfl
                      clear hz1 hk1 hvm ht hB hMs
                      have hG := hG.trans (un6_eq e_x_6300_3)
                      clear hi6_n_6190
                      clear hi8_n_6190
                      refine lv_iload_n hx hb dX7_innerLine_114 rfl (lv_at hl 6 rfl) ?_
                      refine lv_iconst (v := 3) hx hb dX7_innerLine_115 (by decide) ?_
                      refine lv_icmp_ne (tgt := 129) hx hb dX7_innerLine_116 (by decide) (fun c_6306 => ?_) (fun c_6306 => ?_)
                      · skip
                        have hG := hG.trans (if_neg c_6306)
                        have gc_6306 := ti_ne c_6306 rfl kc_3
                        replace gc_6306 : p0.toInt + (-2) ≤ 0 := om_b7ea5ffe gc_6306 hp0.2
                        clear hic
                        refine lv_iconst (v := 0) hx hb dX7_innerLine_129 (by decide) ?_
                        refine lv_istore (lv' := [(6, .int 0), (5, .int x_6212), (4, .int z_6178), (3, .int z_6177), (2, .int x_6176), (0, .ref oM), (1, .int p0)]) hx hb dX7_innerLine_130 hl (by decide) rfl (fun ls hl => ?_)
                        refine lv_aload_n hx hb dX7_innerLine_132 rfl (lv_at hl 5 rfl) ?_
                        refine va_get (D := (dC, dI)) (ci := 7) (v := .int x_6299) (C := RX7) (T := TX7) (N := 48) hx hb hts inX7 hown hK hP 0 rfl rfl 13 (by decide) (hts _ wd_380) (fun _ h9 => h9) rfl dX7_innerLine_133 ?_
                        refine lv_if_eq (tgt := 140) hx hb dX7_innerLine_136 (by decide) (fun c_6307 => ?_) (fun c_6307 => ?_)
                        · skip
                          have hG := hG.trans (if_pos c_6307)
                          have gc_6307 := ti_eq c_6307 rfl kc_0
                          exact ((om_b1155cdc e_x_6297_0 gc_6307)).elim
                        · skip
                          have hG := hG.trans (if_neg c_6307)
                          have gc_6307 := ti_ne c_6307 rfl kc_0
                          replace gc_6307 : (-1) * x_6299.toInt + 1 ≤ 0 := om_e3003f79 gc_6307 b_x_6299.1
                          exact wq_v hx hb hr 0 trivial (fun t ht hW => ⟨x_6300, x_6301, x_6302, x_6303, x_6304, x_6297, x_6298, x_6299, x_6173, f_6305, f_6188, f_6189, f_6175, b_x_6301, b_x_6304, b_x_6299, (om_9348f5ae hi7_n_6190 e_x_6300_0), e_x_6300_1, (om_1fc3dec6 gc_6163 b_x_6299.1), (fun h9 => False.elim (om_92495247 e_x_6297_0 h9.1)), hi2_n_6190, hG, Bw.to hP hD hK ht hW⟩) hS dX7_innerLine_139 hlocks
                      · skip
                        have hG := hG.trans (if_pos c_6306)
                        have gc_6306 := ti_eq c_6306 rfl kc_3
                        have h_6308 : (fM_fresh 8).toInt ≤ 1 := hic ⟨(om_02e9bb08 gc_6163), (om_ce492ef9 hp0.2 gc_6306)⟩
                        clear hic
                        refine lv_aload_n hx hb dX7_innerLine_119 rfl (lv_at hl 5 rfl) ?_
                        refine lv_iconst (v := 1) hx hb dX7_innerLine_120 (by decide) ?_
                        refine lv_bipush (v := 9) hx hb dX7_innerLine_121 (by decide) ?_
                        have hMs := ml_of hD [true, true, true, false, false, false] (wc := [(oc7 oM iM_thrown rM_tape iM_taped iM_size x_6300 x_6301 x_6302 x_6303 x_6304 x_6297 x_6298 iM_trouble rM_letters x_6299 iM_hasCourt rM_r rM_fresh rM_told rM_read rM_st rM_undone rM_kept iM_undos iM_images rM_fresher x_6173 iM_scale iM_night rM_heardRow rM_cutRow iM_breaths iM_cutMany iM_allBreaths rM_trial rM_words iM_fewestBreaths iM_orderMany iM_orderSum iM_leastOrder rM_often iM_setMany iM_someOf iM_allOf iM_allWeight iM_enoughWeight iM_worthSum iM_firstRest iM_leastDrawn), (arI rM_tape kM_tape 900 fM_tape), (arI rM_letters kM_letters 8 f_6305)]) rfl
                        have hFc := va_freeM hD hS hA _ hMs
                        refine va_calli (va_runV (As := [.int 1, .int 9]) (rest := []) ⟨hx, hb, hml, hown, hts⟩ (tX7_number l dC dI _ oM iM_thrown rM_tape fM_tape kM_tape iM_taped iM_size x_6300 x_6301 x_6302 x_6303 x_6304 x_6297 x_6298 iM_trouble rM_letters f_6305 kM_letters x_6299 iM_hasCourt rM_r rM_fresh rM_told rM_read rM_st rM_undone rM_kept iM_undos iM_images rM_fresher x_6173 iM_scale iM_night rM_heardRow rM_cutRow iM_breaths iM_cutMany iM_allBreaths rM_trial rM_words iM_fewestBreaths iM_orderMany iM_orderSum iM_leastOrder rM_often iM_setMany iM_someOf iM_allOf iM_allWeight iM_enoughWeight iM_worthSum iM_firstRest iM_leastDrawn 1 9 b_iM_taped b_iM_size b_x_6301 b_x_6304 b_x_6299 b_iM_hasCourt b_iM_undos b_iM_images b_iM_scale b_iM_breaths b_iM_cutMany e_x_6300_1 (om_dc317686 kc_1 kc_9)) (cwV 2 hts (wd_V wd_446 wd_447 wd_448 wd_5 (wd_c wd_449)) rfl rfl rfl dv_yX7_number_2 ⟨Nat.le_of_ble_eq_true rfl, Nat.le_of_ble_eq_true rfl⟩) ⟨Pw.fb, recvX7 hK hP (q0 := 0) rfl, fun U hU hW => Pw.to (hP.ms _ hMs) (hD.ms _ hMs) (hK.ms [true, true, false, false, false] rfl) hE hS hFc hU hW⟩ rfl rfl hl.1 rfl (lv_room (Nat.le_of_ble_eq_true rfl)) dX7_innerLine_123 ⟨Nat.le_of_ble_eq_true rfl, Nat.le_of_ble_eq_true rfl⟩) hS (fun q _ h => hFc q h) hFc (fun r u t H locs ht hvm hw hB hz1 hk1 hS => ?_)
                        have hru9 := hw.2
                        have hw := hw.1
                        refine ex_9_8 hB (fun x_6309 x_6310 x_6311 x_6312 x_6313 x_6314 x_6315 x_6316 f_6317 b_x_6310 b_x_6313 b_x_6316 e_x_6309_0 e_x_6309_1 e_x_6309_2 e_x_6309_3 e_x_6309_4 hB => ?_)
                        obtain ⟨hP, hD⟩ := Bw.goN (ws' := [(oc7 oM iM_thrown rM_tape iM_taped iM_size x_6309 x_6310 x_6311 x_6312 x_6313 x_6314 x_6315 iM_trouble rM_letters x_6316 iM_hasCourt rM_r rM_fresh rM_told rM_read rM_st rM_undone rM_kept iM_undos iM_images rM_fresher x_6173 iM_scale iM_night rM_heardRow rM_cutRow iM_breaths iM_cutMany iM_allBreaths rM_trial rM_words iM_fewestBreaths iM_orderMany iM_orderSum iM_leastOrder rM_often iM_setMany iM_someOf iM_allOf iM_allWeight iM_enoughWeight iM_worthSum iM_firstRest iM_leastDrawn), (arI rM_tape kM_tape 900 fM_tape), (arI rM_letters kM_letters 8 f_6317), (arI rM_fresh kM_fresh 287 f_6188), (arI rM_read kM_read 90 f_6189), (arI rM_fresher kM_fresher 8 f_6175)]) hB rfl ht hP hD _ hMs hk1 hFc rfl
                        clear hz1 hk1 hvm ht hB hMs
                        rw [← hru9] at e_x_6309_4
                        obtain ⟨x_6318, rfl⟩ : ∃ z, z = r := ⟨_, rfl⟩
                        have hG := hG.trans (un10_eq e_x_6309_4)
                        have lx_6318 := hw.2
                        have kl_1 := kc_1
                        have kl_9 := kc_9
                        clear e_x_6300_1
                        clear e_x_6300_2
                        refine lv_goto (tgt := 130) hx hb dX7_innerLine_126 (by decide) ?_
                        refine lv_istore (lv' := [(6, .int x_6318), (5, .int x_6212), (4, .int z_6178), (3, .int z_6177), (2, .int x_6176), (0, .ref oM), (1, .int p0)]) hx hb dX7_innerLine_130 hl (by decide) rfl (fun ls hl => ?_)
                        refine lv_aload_n hx hb dX7_innerLine_132 rfl (lv_at hl 5 rfl) ?_
                        refine va_get (D := (dC, dI)) (ci := 7) (v := .int x_6316) (C := RX7) (T := TX7) (N := 48) hx hb hts inX7 hown hK hP 0 rfl rfl 13 (by decide) (hts _ wd_380) (fun _ h9 => h9) rfl dX7_innerLine_133 ?_
                        refine lv_if_eq (tgt := 140) hx hb dX7_innerLine_136 (by decide) (fun c_6319 => ?_) (fun c_6319 => ?_)
                        · skip
                          have hG := hG.trans (if_pos c_6319)
                          have gc_6319 := ti_eq c_6319 rfl kc_0
                          exact ((om_2f02dee4 e_x_6297_0 e_x_6309_2 gc_6319)).elim
                        · skip
                          have hG := hG.trans (if_neg c_6319)
                          have gc_6319 := ti_ne c_6319 rfl kc_0
                          replace gc_6319 : (-1) * x_6316.toInt + 1 ≤ 0 := om_e3003f79 gc_6319 b_x_6316.1
                          exact wq_v hx hb hr 0 trivial (fun t ht hW => ⟨x_6309, x_6310, x_6311, x_6312, x_6313, x_6314, x_6315, x_6316, x_6173, f_6317, f_6188, f_6189, f_6175, b_x_6310, b_x_6313, b_x_6316, (om_622f2a87 hi7_n_6190 e_x_6300_0 e_x_6309_0), e_x_6309_1, (om_1fc3dec6 gc_6163 b_x_6316.1), (fun h9 => False.elim (om_a5fe015d gc_6319 h9.1)), hi2_n_6190, hG, Bw.to hP hD hK ht hW⟩) hS dX7_innerLine_139 hlocks
                · skip
                  have hG := hG.trans (if_neg c_6218)
                  have gc_6218 := ti_nle c_6218 rfl rfl
                  refine lv_aload_n hx hb dX7_innerLine_51 rfl (lv_at hl 5 rfl) ?_
                  refine va_get (D := (dC, dI)) (ci := 7) (v := .int z_6214) (C := RX7) (T := TX7) (N := 48) hx hb hts inX7 hown hK hP 0 rfl rfl 13 (by decide) (hts _ wd_380) (fun _ h9 => h9) rfl dX7_innerLine_52 ?_
                  refine lv_if_ne (tgt := 83) hx hb dX7_innerLine_55 (by decide) (fun c_6320 => ?_) (fun c_6320 => ?_)
                  · skip
                    have hG := hG.trans (if_neg c_6320)
                    have gc_6320 := ti_ne c_6320 rfl kc_0
                    replace gc_6320 : (-1) * z_6214.toInt + 1 ≤ 0 := om_e3003f79 gc_6320 b_z_6214.1
                    obtain ⟨x_6321, ex_6321⟩ : ∃ z : Int32, z = z_6213 + Int32.ofInt 1 := ⟨_, rfl⟩
                    have hG := hG.trans (lt_eq ex_6321)
                    have vx_6321 : x_6321.toInt = z_6213.toInt + 1 := ti_add (y := 1) ex_6321 rfl kc_1 (om_4e4fce7e hi0_n_6217.1) (om_d6392c09 hi0_n_6190.2 hi0_n_6217.2)
                    refine lv_iinc (v := x_6321) (lv' := [(6, .int x_6321), (5, .int x_6212), (4, .int z_6178), (3, .int z_6177), (2, .int x_6176), (0, .ref oM), (1, .int p0)]) hx hb dX7_innerLine_83 hl (k := 0) rfl ex_6321.symm (by decide) rfl (fun ls hl => ?_)
                    refine lv_goto (tgt := 45) hx hb dX7_innerLine_86 (by decide) ?_
                    exact ih_n_6217 x_6321 z_6214 z_6215 z_6216 _ _ _ b_z_6214 ⟨(om_83b90de5 hi0_n_6217.1 vx_6321), (om_afcf07ef gc_6218 vx_6321)⟩ hi1_n_6217 (show NeI _ _ _ _ _ from fun h9 i9 hi9 => by by_cases e9 : i9 = z_6213.toNatClampNeg; (rw [e9]; omega); exact hi2_n_6217 (by omega) i9 (by have q1 := ti_cl (x := x_6321) vx_6321 (om_9548a8fd hi0_n_6217.1); have q2 := ti_cl (x := z_6213) rfl hi0_n_6217.1; omega)) (ms_lt hm_n_6217 (om_dd4ae0bc vx_6321) (om_d5382009 gc_6218)) hG hP hD hS (lv_sub hl [0, 1, 2, 3, 4, 5, 6] rfl)
                  · skip
                    have hG := hG.trans (if_pos c_6320)
                    have gc_6320 := ti_eq c_6320 rfl kc_0
                    have h_6322 : 1 ≤ (f_6188 1).toInt := e_x_6209_1 (om_6c480895 hi1_n_6217 gc_6320)
                    clear e_x_6209_1
                    have h_6323 : x_6212.toInt < (f_6188 1).toInt := lx_6212.2.1 h_6322
                    refine lv_aload_n hx hb dX7_innerLine_58 rfl (lv_at hl 5 rfl) ?_
                    refine va_get (D := (dC, dI)) (ci := 7) (v := .ref rM_read) (C := RX7) (T := TX7) (N := 48) hx hb hts inX7 hown hK hP 0 rfl rfl 18 (by decide) (hts _ wd_158) (fun _ h9 => h9) rfl dX7_innerLine_59 ?_
                    refine lv_iconst (v := 4) hx hb dX7_innerLine_62 (by decide) ?_
                    refine lv_iload_n hx hb dX7_innerLine_63 rfl (lv_at hl 4 rfl) ?_
                    refine lv_imul hx hb dX7_innerLine_64 ?_
                    refine lv_topi (fun x_6324 ex_6324 => ?_)
                    have hG := hG.trans (lt_eq ex_6324)
                    have vx_6324 : x_6324.toInt = 4 * x_6176.toInt := ti_mul ex_6324 kc_4 rfl (om_9e6bb6a4 pl_fM_fresh.2.2.2.2.1.1 pl_fM_fresh.2.2.2.2.1.2 cx_6176) (om_7d3cae7d pl_fM_fresh.2.1 pl_fM_fresh.2.2.1.2 pl_fM_fresh.2.2.2.2.2.1.2 cx_6176)
                    refine lv_iload hx hb dX7_innerLine_65 (lv_at hl 0 rfl) ?_
                    refine lv_iadd hx hb dX7_innerLine_67 ?_
                    refine lv_topi (fun x_6325 ex_6325 => ?_)
                    have hG := hG.trans (lt_eq ex_6325)
                    have vx_6325 : x_6325.toInt = 4 * x_6176.toInt + z_6213.toInt := om_5d0caf0f (ti_add ex_6325 vx_6324 rfl (om_80a5d224 pl_fM_fresh.2.2.2.2.1.1 pl_fM_fresh.2.2.2.2.1.2 cx_6176 hi0_n_6217.1) (om_92405955 pl_fM_fresh.2.1 pl_fM_fresh.2.2.1.2 pl_fM_fresh.2.2.2.2.2.1.2 cx_6176 hi0_n_6190.2 hi0_n_6217.2))
                    refine va_iald hx hb hK hP 4 3 rfl rfl (ti_in vx_6325 (om_dcc527d7 pl_fM_fresh.2.2.2.2.1.1 pl_fM_fresh.2.2.2.2.1.2 cx_6176 hi0_n_6217.1) (om_87f3af2a pl_fM_fresh.2.1 pl_fM_fresh.2.2.1.2 pl_fM_fresh.2.2.2.2.2.1.2 cx_6176 hi0_n_6190.2 hi0_n_6217.2)) dX7_innerLine_68 ?_
                    refine lv_topi (fun x_6326 ex_6326 => ?_)
                    have hG := hG.trans (lt_eq ex_6326)
                    have kx_6326 : (f_6189 x_6325.toNatClampNeg).toInt = x_6326.toInt := by rw [ex_6326]
                    have cx_6326 : (f_6189 (4 * x_6176.toNatClampNeg + z_6213.toNatClampNeg)).toInt = x_6326.toInt := by rw [show 4 * x_6176.toNatClampNeg + z_6213.toNatClampNeg = x_6325.toNatClampNeg from (om_4de36627 (ti_cl (x := x_6176) rfl (om_1ab2c227 pl_fM_fresh.2.2.2.2.1.1 pl_fM_fresh.2.2.2.2.1.2 cx_6176)) (ti_cl (x := z_6213) rfl hi0_n_6217.1) (ti_cl (x := x_6325) vx_6325 (om_dcc527d7 pl_fM_fresh.2.2.2.2.1.1 pl_fM_fresh.2.2.2.2.1.2 cx_6176 hi0_n_6217.1)))]; exact kx_6326
                    refine lv_iload hx hb dX7_innerLine_69 (lv_at hl 1 rfl) ?_
                    refine lv_icmp_ne (tgt := 83) hx hb dX7_innerLine_71 (by decide) (fun c_6327 => ?_) (fun c_6327 => ?_)
                    · skip
                      have hG := hG.trans (if_neg c_6327)
                      have gc_6327 := ti_ne c_6327 rfl rfl
                      obtain ⟨x_6328, ex_6328⟩ : ∃ z : Int32, z = z_6213 + Int32.ofInt 1 := ⟨_, rfl⟩
                      have hG := hG.trans (lt_eq ex_6328)
                      have vx_6328 : x_6328.toInt = z_6213.toInt + 1 := ti_add (y := 1) ex_6328 rfl kc_1 (om_4e4fce7e hi0_n_6217.1) (om_d6392c09 hi0_n_6190.2 hi0_n_6217.2)
                      refine lv_iinc (v := x_6328) (lv' := [(6, .int x_6328), (5, .int x_6212), (4, .int z_6178), (3, .int z_6177), (2, .int x_6176), (0, .ref oM), (1, .int p0)]) hx hb dX7_innerLine_83 hl (k := 0) rfl ex_6328.symm (by decide) rfl (fun ls hl => ?_)
                      refine lv_goto (tgt := 45) hx hb dX7_innerLine_86 (by decide) ?_
                      exact ih_n_6217 x_6328 z_6214 z_6215 z_6216 _ _ _ b_z_6214 ⟨(om_83b90de5 hi0_n_6217.1 vx_6328), (om_afcf07ef gc_6218 vx_6328)⟩ hi1_n_6217 (show NeI _ _ _ _ _ from fun h9 i9 hi9 => by by_cases e9 : i9 = z_6213.toNatClampNeg; (rw [e9]; omega); exact hi2_n_6217 (by omega) i9 (by have q1 := ti_cl (x := x_6328) vx_6328 (om_9548a8fd hi0_n_6217.1); have q2 := ti_cl (x := z_6213) rfl hi0_n_6217.1; omega)) (ms_lt hm_n_6217 (om_dd4ae0bc vx_6328) (om_d5382009 gc_6218)) hG hP hD hS (lv_sub hl [0, 1, 2, 3, 4, 5, 6] rfl)
                    · skip
                      have hG := hG.trans (if_pos c_6327)
                      have gc_6327 := ti_eq c_6327 rfl rfl
                      refine lv_aload_n hx hb dX7_innerLine_74 rfl (lv_at hl 5 rfl) ?_
                      refine lv_iconst (v := 3) hx hb dX7_innerLine_75 (by decide) ?_
                      refine lv_aload_n hx hb dX7_innerLine_76 rfl (lv_at hl 5 rfl) ?_
                      refine va_get (D := (dC, dI)) (ci := 7) (v := .int z_6179) (C := RX7) (T := TX7) (N := 48) hx hb hts inX7 hown hK hP 0 rfl rfl 4 (by decide) (hts _ wd_384) (fun _ h9 => h9) rfl dX7_innerLine_77 ?_
                      have hMs := ml_of hD [true, false, false, false, false, false] (wc := [(oc7 oM iM_thrown rM_tape iM_taped iM_size z_6179 z_6180 z_6181 z_6182 z_6183 z_6215 z_6216 iM_trouble rM_letters z_6214 iM_hasCourt rM_r rM_fresh rM_told rM_read rM_st rM_undone rM_kept iM_undos iM_images rM_fresher x_6173 iM_scale iM_night rM_heardRow rM_cutRow iM_breaths iM_cutMany iM_allBreaths rM_trial rM_words iM_fewestBreaths iM_orderMany iM_orderSum iM_leastOrder rM_often iM_setMany iM_someOf iM_allOf iM_allWeight iM_enoughWeight iM_worthSum iM_firstRest iM_leastDrawn)]) rfl
                      have hFc := va_freeM hD hS hA _ hMs
                      refine va_callv (va_runV (As := [.int 3, .int z_6179]) (rest := []) ⟨hx, hb, hml, hown, hts⟩ (tX7_wrong l dC dI _ oM iM_thrown rM_tape iM_taped iM_size z_6179 z_6180 z_6181 z_6182 z_6183 z_6215 z_6216 iM_trouble rM_letters z_6214 iM_hasCourt rM_r rM_fresh rM_told rM_read rM_st rM_undone rM_kept iM_undos iM_images rM_fresher x_6173 iM_scale iM_night rM_heardRow rM_cutRow iM_breaths iM_cutMany iM_allBreaths rM_trial rM_words iM_fewestBreaths iM_orderMany iM_orderSum iM_leastOrder rM_often iM_setMany iM_someOf iM_allOf iM_allWeight iM_enoughWeight iM_worthSum iM_firstRest iM_leastDrawn 3 z_6179 b_iM_taped b_iM_size b_z_6180 b_z_6183 b_z_6214 b_iM_hasCourt b_iM_undos b_iM_images b_iM_scale b_iM_breaths b_iM_cutMany hi6_n_6190) (cwV 2 hts (wd_V wd_430 wd_431 wd_432 wd_5 (wd_c wd_433)) rfl rfl rfl dv_yX7_wrong_2 ⟨Nat.le_of_ble_eq_true rfl, Nat.le_of_ble_eq_true rfl⟩) ⟨Pw.fb, recvX7 hK hP (q0 := 0) rfl, fun U hU hW => Pw.to (hP.ms _ hMs) (hD.ms _ hMs) (hK.ms [false, false, false, false, false] rfl) hE hS hFc hU hW⟩ rfl rfl hl.1 rfl (lv_room (Nat.le_of_ble_eq_true rfl)) dX7_innerLine_80 ⟨Nat.le_of_ble_eq_true rfl, Nat.le_of_ble_eq_true rfl⟩) hS (fun q _ h => hFc q h) hFc (fun u t H locs ht hvm hw hB hz1 hk1 hS => ?_)
                      refine ex_3_3 hB (fun x_6329 x_6330 x_6331 b_x_6331 e_x_6329_0 e_x_6329_1 hB => ?_)
                      obtain ⟨hP, hD⟩ := Bw.goN (ws' := [(oc7 oM iM_thrown rM_tape iM_taped iM_size z_6179 z_6180 z_6181 z_6182 z_6183 x_6329 x_6330 iM_trouble rM_letters x_6331 iM_hasCourt rM_r rM_fresh rM_told rM_read rM_st rM_undone rM_kept iM_undos iM_images rM_fresher x_6173 iM_scale iM_night rM_heardRow rM_cutRow iM_breaths iM_cutMany iM_allBreaths rM_trial rM_words iM_fewestBreaths iM_orderMany iM_orderSum iM_leastOrder rM_often iM_setMany iM_someOf iM_allOf iM_allWeight iM_enoughWeight iM_worthSum iM_firstRest iM_leastDrawn), (arI rM_tape kM_tape 900 fM_tape), (arI rM_letters kM_letters 8 f_6187), (arI rM_fresh kM_fresh 287 f_6188), (arI rM_read kM_read 90 f_6189), (arI rM_fresher kM_fresher 8 f_6175)]) hB rfl ht hP hD _ hMs hk1 hFc rfl
                      clear hz1 hk1 hvm ht hB hMs
                      have hG := hG.trans (un3_eq e_x_6329_1)
                      obtain ⟨x_6332, ex_6332⟩ : ∃ z : Int32, z = z_6213 + Int32.ofInt 1 := ⟨_, rfl⟩
                      have hG := hG.trans (lt_eq ex_6332)
                      have vx_6332 : x_6332.toInt = z_6213.toInt + 1 := ti_add (y := 1) ex_6332 rfl kc_1 (om_4e4fce7e hi0_n_6217.1) (om_d6392c09 hi0_n_6190.2 hi0_n_6217.2)
                      refine lv_iinc (v := x_6332) (lv' := [(6, .int x_6332), (5, .int x_6212), (4, .int z_6178), (3, .int z_6177), (2, .int x_6176), (0, .ref oM), (1, .int p0)]) hx hb dX7_innerLine_83 hl (k := 0) rfl ex_6332.symm (by decide) rfl (fun ls hl => ?_)
                      refine lv_goto (tgt := 45) hx hb dX7_innerLine_86 (by decide) ?_
                      exact ih_n_6217 x_6332 x_6331 x_6329 x_6330 _ _ _ b_x_6331 ⟨(om_83b90de5 hi0_n_6217.1 vx_6332), (om_afcf07ef gc_6218 vx_6332)⟩ (om_00f1c5dd b_x_6211.2 e_x_6329_0) (show NeI _ _ _ _ _ from fun h9 i9 hi9 => by by_cases e9 : i9 = z_6213.toNatClampNeg; (rw [e9]; omega); exact hi2_n_6217 (by omega) i9 (by have q1 := ti_cl (x := x_6332) vx_6332 (om_9548a8fd hi0_n_6217.1); have q2 := ti_cl (x := z_6213) rfl hi0_n_6217.1; omega)) (ms_lt hm_n_6217 (om_dd4ae0bc vx_6332) (om_d5382009 gc_6218)) hG hP hD hS (lv_sub hl [0, 1, 2, 3, 4, 5, 6] rfl)
            exact key_n_6217 (((z_6177.toInt - (0 : Int32).toInt).toNat) + 1) 0 x_6211 x_6209 x_6210 _ _ _ b_x_6211 ⟨(om_b1de7dbe kc_0), (om_2dfe280d hi0_n_6190.1 kc_0)⟩ om_1cb5f934 (show NeI _ _ _ _ _ from fun _ i9 hi9 => absurd hi9 (Nat.not_lt_zero i9)) (Nat.lt_add_one _) hG hP hD hS hl
    exact key_n_6190 (((4 - (0 : Int32).toInt).toNat) + 1) 0 1 x_6165 x_6166 x_6167 x_6168 x_6169 x_6170 x_6171 x_6172 f_6174 fM_fresh fM_read _ _ _ b_x_6166 b_x_6169 b_x_6172 ⟨(om_b1de7dbe kc_0), (om_bebe011a kc_0)⟩ ⟨(om_1b364b1c kc_1), (om_02032f93 kc_1)⟩ (by assumption) in_zero ⟨rfl, rfl, rfl⟩ (fun h9 => by have q0 := kc_0; have q1 := kc_1; omega) e_x_6165_1 e_x_6165_0 (fun h9 => by have q0 := kc_0; have q1 := kc_1; have q9 := e_x_6165_3 (by omega); omega) (Nat.lt_add_one _) hG hP hD hS hl
  · skip
    have hG := hG.trans (if_neg c_6163)
    have gc_6163 := ti_ne c_6163 rfl kc_0
    replace gc_6163 : (-1) * iM_failed.toInt + 1 ≤ 0 := om_e3003f79 gc_6163 b_iM_failed.1
    clear hil
    clear hic
    exact wq_v hx hb hr 0 trivial (fun t ht hW => ⟨iM_at, iM_end, iM_token, iM_whole, iM_nameSize, iM_fault, iM_place, iM_failed, iM_fresherSize, fM_letters, fM_fresh, fM_read, fM_fresher, ⟨b_iM_end.1, b_iM_end.2⟩, ⟨b_iM_nameSize.1, b_iM_nameSize.2⟩, ⟨b_iM_failed.1, b_iM_failed.2⟩, om_1cb5f934, r_T, om_1cb5f934, (fun h9 => False.elim (om_a5fe015d gc_6163 h9.1)), r_P, hG, Bw.to hP hD hK ht hW⟩) hS dX7_innerLine_7 hlocks
