set_option maxHeartbeats 4000000 in
set_option maxRecDepth 100000 in
theorem tX7_innerLine (l : Launch) (dC : Nat → ClassId) (dI : Nat → Nat → Nat) (sz : Nat) (oM : Nat) (iM_thrown : Int32) (rM_tape : Nat) (fM_tape : Nat → Int32) (kM_tape : ClassId) (iM_taped : Int32) (iM_size : Int32) (iM_at : Int32) (iM_end : Int32) (iM_token : Int32) (iM_whole : Int32) (iM_nameSize : Int32) (iM_fault : Int32) (iM_place : Int32) (iM_trouble : Int32) (rM_letters : Nat) (fM_letters : Nat → Int32) (kM_letters : ClassId) (iM_failed : Int32) (iM_hasCourt : Int32) (rM_r : Nat) (rM_fresh : Nat) (fM_fresh : Nat → Int32) (kM_fresh : ClassId) (rM_told : Nat) (rM_read : Nat) (fM_read : Nat → Int32) (kM_read : ClassId) (rM_st : Nat) (rM_undone : Nat) (rM_kept : Nat) (iM_undos : Int32) (iM_images : Int32) (rM_fresher : Nat) (fM_fresher : Nat → Int32) (kM_fresher : ClassId) (iM_fresherSize : Int32) (iM_scale : Int32) (iM_night : Int32) (rM_heardRow : Nat) (rM_cutRow : Nat) (iM_breaths : Int32) (iM_cutMany : Int32) (iM_allBreaths : Int32) (rM_trial : Nat) (rM_words : Nat) (iM_fewestBreaths : Int32) (iM_orderMany : Int32) (iM_orderSum : Int32) (iM_leastOrder : Int32) (rM_often : Nat) (iM_setMany : Int32) (iM_someOf : Int32) (iM_allOf : Int32) (iM_allWeight : Int64) (iM_enoughWeight : Int64) (iM_worthSum : Int64) (iM_firstRest : Int32) (iM_leastDrawn : Int32) (p0 : Int32) (b_iM_taped : 0 ≤ iM_taped.toInt ∧ iM_taped.toInt ≤ 900) (b_iM_size : 0 ≤ iM_size.toInt ∧ iM_size.toInt ≤ 900) (b_iM_end : 0 ≤ iM_end.toInt ∧ iM_end.toInt ≤ 900) (b_iM_nameSize : 0 ≤ iM_nameSize.toInt ∧ iM_nameSize.toInt ≤ 900) (b_iM_failed : 0 ≤ iM_failed.toInt ∧ iM_failed.toInt ≤ 1) (b_iM_hasCourt : 0 ≤ iM_hasCourt.toInt ∧ iM_hasCourt.toInt ≤ 1) (b_iM_undos : 0 ≤ iM_undos.toInt ∧ iM_undos.toInt ≤ 16) (b_iM_images : 0 ≤ iM_images.toInt ∧ iM_images.toInt ≤ 3) (b_iM_scale : 1 ≤ iM_scale.toInt ∧ iM_scale.toInt ≤ 1296) (b_iM_breaths : 0 ≤ iM_breaths.toInt ∧ iM_breaths.toInt ≤ 399) (b_iM_cutMany : 0 ≤ iM_cutMany.toInt ∧ iM_cutMany.toInt ≤ 399) (r_T : ImpP (iM_token.toInt = 2) (iM_nameSize.toInt ≤ 8)) (r_P : POk fM_fresh fM_read) (hp0 : 1 ≤ p0.toInt ∧ p0.toInt ≤ 3) (hil : ImpP (iM_failed.toInt ≤ 0) ((fM_fresh 7).toInt ≤ 7)) (hic : ImpP (iM_failed.toInt ≤ 0 ∧ p0.toInt = 3) ((fM_fresh 8).toInt ≤ 1)) : Met l yX7_innerLine (Cond.code yX7_innerLine cX7_innerLine 7 none :: wG) ({ frames := 7, cells := 0, slots := 0, locals := 175 }) (va_Pc [.ref oM, .int p0] (Pw dC dI sz [(oc7 oM iM_thrown rM_tape iM_taped iM_size iM_at iM_end iM_token iM_whole iM_nameSize iM_fault iM_place iM_trouble rM_letters iM_failed iM_hasCourt rM_r rM_fresh rM_told rM_read rM_st rM_undone rM_kept iM_undos iM_images rM_fresher iM_fresherSize iM_scale iM_night rM_heardRow rM_cutRow iM_breaths iM_cutMany iM_allBreaths rM_trial rM_words iM_fewestBreaths iM_orderMany iM_orderSum iM_leastOrder rM_often iM_setMany iM_someOf iM_allOf iM_allWeight iM_enoughWeight iM_worthSum iM_firstRest iM_leastDrawn), (arI rM_tape kM_tape 900 fM_tape), (arI rM_letters kM_letters 8 fM_letters), (arI rM_fresh kM_fresh 287 fM_fresh), (arI rM_read kM_read 90 fM_read), (arI rM_fresher kM_fresher 8 fM_fresher)] [(kM_tape, .int), (kM_letters, .int), (kM_fresh, .int), (kM_read, .int), (kM_fresher, .int)])) (va_Qv (fun (_ : Nat) => True) (fun (_ : Nat) (t : State) => ∃ (niM_at : Int32) (niM_end : Int32) (niM_token : Int32) (niM_whole : Int32) (niM_nameSize : Int32) (niM_fault : Int32) (niM_place : Int32) (niM_failed : Int32) (niM_fresherSize : Int32) (nfM_letters : Nat → Int32) (nfM_fresh : Nat → Int32) (nfM_read : Nat → Int32) (nfM_fresher : Nat → Int32), (0 ≤ niM_end.toInt ∧ niM_end.toInt ≤ 900) ∧ (0 ≤ niM_nameSize.toInt ∧ niM_nameSize.toInt ≤ 900) ∧ (0 ≤ niM_failed.toInt ∧ niM_failed.toInt ≤ 1) ∧ (iM_end.toInt ≤ niM_end.toInt) ∧ (ImpP (niM_token.toInt = 2) (niM_nameSize.toInt ≤ 8)) ∧ (iM_failed.toInt ≤ niM_failed.toInt) ∧ (ImpP (niM_failed.toInt ≤ 0 ∧ niM_token.toInt = 59 ) (iM_end.toInt + 1 ≤ niM_end.toInt)) ∧ (POk nfM_fresh nfM_read) ∧ (PX7_innerLine fM_tape iM_size iM_at iM_end iM_token iM_whole iM_nameSize iM_fault iM_place fM_letters iM_failed fM_fresh fM_read fM_fresher iM_fresherSize p0 = (niM_at, niM_end, niM_token, niM_whole, niM_nameSize, niM_fault, niM_place, niM_failed, niM_fresherSize, nfM_letters, nfM_fresh, nfM_read, nfM_fresher)) ∧ Bw dC dI (va_A [(oc7 oM iM_thrown rM_tape iM_taped iM_size iM_at iM_end iM_token iM_whole iM_nameSize iM_fault iM_place iM_trouble rM_letters iM_failed iM_hasCourt rM_r rM_fresh rM_told rM_read rM_st rM_undone rM_kept iM_undos iM_images rM_fresher iM_fresherSize iM_scale iM_night rM_heardRow rM_cutRow iM_breaths iM_cutMany iM_allBreaths rM_trial rM_words iM_fewestBreaths iM_orderMany iM_orderSum iM_leastOrder rM_often iM_setMany iM_someOf iM_allOf iM_allWeight iM_enoughWeight iM_worthSum iM_firstRest iM_leastDrawn), (arI rM_tape kM_tape 900 fM_tape), (arI rM_letters kM_letters 8 fM_letters), (arI rM_fresh kM_fresh 287 fM_fresh), (arI rM_read kM_read 90 fM_read), (arI rM_fresher kM_fresher 8 fM_fresher)] sz) [(oc7 oM iM_thrown rM_tape iM_taped iM_size niM_at niM_end niM_token niM_whole niM_nameSize niM_fault niM_place iM_trouble rM_letters niM_failed iM_hasCourt rM_r rM_fresh rM_told rM_read rM_st rM_undone rM_kept iM_undos iM_images rM_fresher niM_fresherSize iM_scale iM_night rM_heardRow rM_cutRow iM_breaths iM_cutMany iM_allBreaths rM_trial rM_words iM_fewestBreaths iM_orderMany iM_orderSum iM_leastOrder rM_often iM_setMany iM_someOf iM_allOf iM_allWeight iM_enoughWeight iM_worthSum iM_firstRest iM_leastDrawn), (arI rM_tape kM_tape 900 fM_tape), (arI rM_letters kM_letters 8 nfM_letters), (arI rM_fresh kM_fresh 287 nfM_fresh), (arI rM_read kM_read 90 nfM_read), (arI rM_fresher kM_fresher 8 nfM_fresher)] [(kM_tape, .int), (kM_letters, .int), (kM_fresh, .int), (kM_read, .int), (kM_fresher, .int)] t) (va_A [(oc7 oM iM_thrown rM_tape iM_taped iM_size iM_at iM_end iM_token iM_whole iM_nameSize iM_fault iM_place iM_trouble rM_letters iM_failed iM_hasCourt rM_r rM_fresh rM_told rM_read rM_st rM_undone rM_kept iM_undos iM_images rM_fresher iM_fresherSize iM_scale iM_night rM_heardRow rM_cutRow iM_breaths iM_cutMany iM_allBreaths rM_trial rM_words iM_fewestBreaths iM_orderMany iM_orderSum iM_leastOrder rM_often iM_setMany iM_someOf iM_allOf iM_allWeight iM_enoughWeight iM_worthSum iM_firstRest iM_leastDrawn), (arI rM_tape kM_tape 900 fM_tape), (arI rM_letters kM_letters 8 fM_letters), (arI rM_fresh kM_fresh 287 fM_fresh), (arI rM_read kM_read 90 fM_read), (arI rM_fresher kM_fresher 8 fM_fresher)] sz)) 0 0 (va_A [(oc7 oM iM_thrown rM_tape iM_taped iM_size iM_at iM_end iM_token iM_whole iM_nameSize iM_fault iM_place iM_trouble rM_letters iM_failed iM_hasCourt rM_r rM_fresh rM_told rM_read rM_st rM_undone rM_kept iM_undos iM_images rM_fresher iM_fresherSize iM_scale iM_night rM_heardRow rM_cutRow iM_breaths iM_cutMany iM_allBreaths rM_trial rM_words iM_fewestBreaths iM_orderMany iM_orderSum iM_leastOrder rM_often iM_setMany iM_someOf iM_allOf iM_allWeight iM_enoughWeight iM_worthSum iM_firstRest iM_leastDrawn), (arI rM_tape kM_tape 900 fM_tape), (arI rM_letters kM_letters 8 fM_letters), (arI rM_fresh kM_fresh 287 fM_fresh), (arI rM_read kM_read 90 fM_read), (arI rM_fresher kM_fresher 8 fM_fresher)] sz) := by
  refine Met.ofW (cc := cX7_innerLine) (maxL := 7) (ret := none) pnX7 rfl ?_
  intro p e s m args below meth c s₁ B hml hv
  obtain ⟨rfl, hsz, hP, hK, hD0, hE⟩ := hv
  have hx := B.exec
  have hb := B.bytes
  have hr := B.returns
  have hts : ∀ w ∈ wG, w.before ([.ref oM, .int p0] : List Value).toArray s = true := fun w h => atoms_spec (ws := Cond.code yX7_innerLine cX7_innerLine 7 none :: wG) B.pre w (List.mem_cons_of_mem _ h)
  have hown : s.vm.findClass RX7 = some m.cls := own_of B.named rfl
  have hlocks := B.notSynchronized
  subst hsz
  have hD := hD0.self (sz := s.heap.size)
  generalize hAe : va_A [(oc7 oM iM_thrown rM_tape iM_taped iM_size iM_at iM_end iM_token iM_whole iM_nameSize iM_fault iM_place iM_trouble rM_letters iM_failed iM_hasCourt rM_r rM_fresh rM_told rM_read rM_st rM_undone rM_kept iM_undos iM_images rM_fresher iM_fresherSize iM_scale iM_night rM_heardRow rM_cutRow iM_breaths iM_cutMany iM_allBreaths rM_trial rM_words iM_fewestBreaths iM_orderMany iM_orderSum iM_leastOrder rM_often iM_setMany iM_someOf iM_allOf iM_allWeight iM_enoughWeight iM_worthSum iM_firstRest iM_leastDrawn), (arI rM_tape kM_tape 900 fM_tape), (arI rM_letters kM_letters 8 fM_letters), (arI rM_fresh kM_fresh 287 fM_fresh), (arI rM_read kM_read 90 fM_read), (arI rM_fresher kM_fresher 8 fM_fresher)] s.heap.size = A at hD hE ⊢
  have hA : ∀ q : Nat, s.heap.size ≤ q → A q := fun q h => by rw [← hAe]; exact Or.inr h
  have hS : va_S A s.heap s.heap [] := va_S.rf
  have hl := lv_entry ([.ref oM, .int p0]) (n := 7) (Nat.le_of_ble_eq_true rfl)
  rw [lg_entry_eq]
  generalize (lg_sl ([.ref oM, .int p0]) ++ List.replicate (7 - (lg_sl ([.ref oM, .int p0])).length) Slot.unset).toArray = ls at hl ⊢
  have hl : lv_has ls 7 [(0, .ref oM), (1, .int p0)] := hl
  have hG := PX7_innerLine_eq fM_tape iM_size iM_at iM_end iM_token iM_whole iM_nameSize iM_fault iM_place fM_letters iM_failed fM_fresh fM_read fM_fresher iM_fresherSize p0
  have pl_fM_fresh := r_P.lins
  refine lv_aload_n hx hb dX7_innerLine_0 rfl (lv_at hl 0 rfl) ?_
  refine va_get (D := (dC, dI)) (ci := 7) (v := .int iM_failed) (C := RX7) (T := TX7) (N := 48) hx hb hts inX7 hown hK hP 0 rfl rfl 13 (by decide) (hts _ wd_380) (fun _ h9 => h9) rfl dX7_innerLine_1 ?_
  refine lv_if_eq (tgt := 8) hx hb dX7_innerLine_4 (by decide) (fun c_6159 => ?_) (fun c_6159 => ?_)
  · skip
    have hG := hG.trans (if_pos c_6159)
    have gc_6159 := ti_eq c_6159 rfl kc_0
    have h_6160 : (fM_fresh 7).toInt ≤ 7 := hil (om_02e9bb08 gc_6159)
    clear hil
    refine lv_aload_n hx hb dX7_innerLine_8 rfl (lv_at hl 0 rfl) ?_
    have hFc := va_freeI hD hS hA
    refine va_callv (va_runV (As := []) (rest := []) ⟨hx, hb, hml, hown, hts⟩ (tX7_newName l dC dI _ oM iM_thrown rM_tape fM_tape kM_tape iM_taped iM_size iM_at iM_end iM_token iM_whole iM_nameSize iM_fault iM_place iM_trouble rM_letters fM_letters kM_letters iM_failed iM_hasCourt rM_r rM_fresh fM_fresh kM_fresh rM_told rM_read fM_read kM_read rM_st rM_undone rM_kept iM_undos iM_images rM_fresher fM_fresher kM_fresher iM_fresherSize iM_scale iM_night rM_heardRow rM_cutRow iM_breaths iM_cutMany iM_allBreaths rM_trial rM_words iM_fewestBreaths iM_orderMany iM_orderSum iM_leastOrder rM_often iM_setMany iM_someOf iM_allOf iM_allWeight iM_enoughWeight iM_worthSum iM_firstRest iM_leastDrawn b_iM_taped b_iM_size b_iM_end b_iM_nameSize b_iM_failed b_iM_hasCourt b_iM_undos b_iM_images b_iM_scale b_iM_breaths b_iM_cutMany r_T r_P) (cwV 0 hts (wd_V wd_462 wd_463 wd_464 wd_5 (wd_c wd_465)) rfl rfl rfl dv_yX7_newName_0 ⟨Nat.le_of_ble_eq_true rfl, Nat.le_of_ble_eq_true rfl⟩) ⟨Pw.fb, recvX7 hK hP (q0 := 0) rfl, fun U hU hW => Pw.to hP hD hK hE hS hFc hU hW⟩ rfl rfl hl.1 rfl (lv_room (Nat.le_of_ble_eq_true rfl)) dX7_innerLine_9 ⟨Nat.le_of_ble_eq_true rfl, Nat.le_of_ble_eq_true rfl⟩) hS (fun q _ h => hFc q h) hFc (fun u t H locs ht hvm hw hB hz1 hk1 hS => ?_)
    refine ex_11_8 hB (fun x_6161 x_6162 x_6163 x_6164 x_6165 x_6166 x_6167 x_6168 x_6169 f_6170 f_6171 b_x_6162 b_x_6165 b_x_6168 e_x_6161_0 e_x_6161_1 e_x_6161_2 e_x_6161_3 e_x_6161_4 hB => ?_)
    obtain ⟨hP, hD⟩ := Bw.goA (ws' := [(oc7 oM iM_thrown rM_tape iM_taped iM_size x_6161 x_6162 x_6163 x_6164 x_6165 x_6166 x_6167 iM_trouble rM_letters x_6168 iM_hasCourt rM_r rM_fresh rM_told rM_read rM_st rM_undone rM_kept iM_undos iM_images rM_fresher x_6169 iM_scale iM_night rM_heardRow rM_cutRow iM_breaths iM_cutMany iM_allBreaths rM_trial rM_words iM_fewestBreaths iM_orderMany iM_orderSum iM_leastOrder rM_often iM_setMany iM_someOf iM_allOf iM_allWeight iM_enoughWeight iM_worthSum iM_firstRest iM_leastDrawn), (arI rM_tape kM_tape 900 fM_tape), (arI rM_letters kM_letters 8 f_6170), (arI rM_fresh kM_fresh 287 fM_fresh), (arI rM_read kM_read 90 fM_read), (arI rM_fresher kM_fresher 8 f_6171)]) hB rfl ht hFc rfl
    clear hz1 hk1 hvm ht hB
    have hG := hG.trans (un11_eq e_x_6161_4)
    clear r_T
    refine lv_aload_n hx hb dX7_innerLine_12 rfl (lv_at hl 0 rfl) ?_
    refine va_get (D := (dC, dI)) (ci := 7) (v := .ref rM_fresh) (C := RX7) (T := TX7) (N := 48) hx hb hts inX7 hown hK hP 0 rfl rfl 16 (by decide) (hts _ wd_156) (fun _ h9 => h9) rfl dX7_innerLine_13 ?_
    refine lv_iconst (v := 1) hx hb dX7_innerLine_16 (by decide) ?_
    refine va_iald hx hb hK hP 3 2 rfl rfl (by unfold vp_in; decide) dX7_innerLine_17 ?_
    refine lv_topi (fun x_6172 ex_6172 => ?_)
    have hG := hG.trans (lt_eq ex_6172)
    have cx_6172 : (fM_fresh 1).toInt = x_6172.toInt := congrArg Int32.toInt (show fM_fresh 1 = x_6172 from ex_6172.symm)
    refine lv_istore_n (lv' := [(2, .int x_6172), (0, .ref oM), (1, .int p0)]) hx hb dX7_innerLine_18 rfl hl (by decide) rfl (fun ls hl => ?_)
    refine lv_iconst (v := 0) hx hb dX7_innerLine_19 (by decide) ?_
    refine lv_istore_n (lv' := [(3, .int 0), (2, .int x_6172), (0, .ref oM), (1, .int p0)]) hx hb dX7_innerLine_20 rfl hl (by decide) rfl (fun ls hl => ?_)
    refine lv_iconst (v := 1) hx hb dX7_innerLine_21 (by decide) ?_
    refine lv_istore (lv' := [(4, .int 1), (3, .int 0), (2, .int x_6172), (0, .ref oM), (1, .int p0)]) hx hb dX7_innerLine_22 hl (by decide) rfl (fun ls hl => ?_)
    have hl := lv_sub hl (l' := [(4, .int 1), (3, .int 0), (2, .int x_6172), (0, .ref oM), (1, .int p0)]) [0, 1, 2, 3, 4] rfl
    have key_n_6186 : ∀ (n_6186 : Nat) (z_6173 : Int32) (z_6174 : Int32) (z_6175 : Int32) (z_6176 : Int32) (z_6177 : Int32) (z_6178 : Int32) (z_6179 : Int32) (z_6180 : Int32) (z_6181 : Int32) (z_6182 : Int32) (f_6183 : Nat → Int32) (f_6184 : Nat → Int32) (f_6185 : Nat → Int32) (H : Heap) (locs : List Loc) (ls : Array Slot), (0 ≤ z_6176.toInt ∧ z_6176.toInt ≤ 900) → (0 ≤ z_6179.toInt ∧ z_6179.toInt ≤ 900) → (0 ≤ z_6182.toInt ∧ z_6182.toInt ≤ 1) → (0 ≤ z_6173.toInt ∧ z_6173.toInt ≤ 4) → (0 ≤ z_6174.toInt ∧ z_6174.toInt ≤ 1) → (POk f_6184 f_6185) → (InOk f_6184 f_6185 (f_6184 1).toNatClampNeg z_6173.toNatClampNeg p0.toInt) → ((f_6184 1).toInt = (fM_fresh 1).toInt ∧ (f_6184 7).toInt = (fM_fresh 7).toInt ∧ (f_6184 8).toInt = (fM_fresh 8).toInt) → (ImpP (z_6174.toInt ≤ 0) (1 ≤ z_6173.toInt)) → (ImpP (z_6177.toInt = 2) (z_6179.toInt ≤ 8)) → (iM_end.toInt ≤ z_6176.toInt) → (ImpP (z_6182.toInt ≤ 0 ∧ z_6177.toInt = 59 ) (iM_end.toInt + 1 ≤ z_6176.toInt)) → (4 - z_6173.toInt).toNat < n_6186 → (PX7_innerLine fM_tape iM_size iM_at iM_end iM_token iM_whole iM_nameSize iM_fault iM_place fM_letters iM_failed fM_fresh fM_read fM_fresher iM_fresherSize p0 = HX7_innerLine_0 fM_tape iM_size p0 x_6169 f_6171 x_6172 n_6186 z_6173 z_6174 z_6175 z_6176 z_6177 z_6178 z_6179 z_6180 z_6181 z_6182 f_6183 f_6184 f_6185) → va_P (dC, dI) vwCl [(oc7 oM iM_thrown rM_tape iM_taped iM_size z_6175 z_6176 z_6177 z_6178 z_6179 z_6180 z_6181 iM_trouble rM_letters z_6182 iM_hasCourt rM_r rM_fresh rM_told rM_read rM_st rM_undone rM_kept iM_undos iM_images rM_fresher x_6169 iM_scale iM_night rM_heardRow rM_cutRow iM_breaths iM_cutMany iM_allBreaths rM_trial rM_words iM_fewestBreaths iM_orderMany iM_orderSum iM_leastOrder rM_often iM_setMany iM_someOf iM_allOf iM_allWeight iM_enoughWeight iM_worthSum iM_firstRest iM_leastDrawn), (arI rM_tape kM_tape 900 fM_tape), (arI rM_letters kM_letters 8 f_6183), (arI rM_fresh kM_fresh 287 f_6184), (arI rM_read kM_read 90 f_6185), (arI rM_fresher kM_fresher 8 f_6171)] H → va_D A [(oc7 oM iM_thrown rM_tape iM_taped iM_size z_6175 z_6176 z_6177 z_6178 z_6179 z_6180 z_6181 iM_trouble rM_letters z_6182 iM_hasCourt rM_r rM_fresh rM_told rM_read rM_st rM_undone rM_kept iM_undos iM_images rM_fresher x_6169 iM_scale iM_night rM_heardRow rM_cutRow iM_breaths iM_cutMany iM_allBreaths rM_trial rM_words iM_fewestBreaths iM_orderMany iM_orderSum iM_leastOrder rM_often iM_setMany iM_someOf iM_allOf iM_allWeight iM_enoughWeight iM_worthSum iM_firstRest iM_leastDrawn), (arI rM_tape kM_tape 900 fM_tape), (arI rM_letters kM_letters 8 f_6183), (arI rM_fresh kM_fresh 287 f_6184), (arI rM_read kM_read 90 f_6185), (arI rM_fresher kM_fresher 8 f_6171)] → va_S A s.heap H locs → lv_has ls 7 [(4, .int z_6174), (3, .int z_6173), (2, .int x_6172), (0, .ref oM), (1, .int p0)] → W p l e (headSpec (Cond.code yX7_innerLine cX7_innerLine 7 none :: wG) ({ frames := 7, cells := 0, slots := 0, locals := 175 })).room s m ([.ref oM, .int p0] : List Value).toArray below meth c H locs 0 0 (MQ below (va_Qv (fun (_ : Nat) => True) (fun (_ : Nat) (t : State) => ∃ (niM_at : Int32) (niM_end : Int32) (niM_token : Int32) (niM_whole : Int32) (niM_nameSize : Int32) (niM_fault : Int32) (niM_place : Int32) (niM_failed : Int32) (niM_fresherSize : Int32) (nfM_letters : Nat → Int32) (nfM_fresh : Nat → Int32) (nfM_read : Nat → Int32) (nfM_fresher : Nat → Int32), (0 ≤ niM_end.toInt ∧ niM_end.toInt ≤ 900) ∧ (0 ≤ niM_nameSize.toInt ∧ niM_nameSize.toInt ≤ 900) ∧ (0 ≤ niM_failed.toInt ∧ niM_failed.toInt ≤ 1) ∧ (iM_end.toInt ≤ niM_end.toInt) ∧ (ImpP (niM_token.toInt = 2) (niM_nameSize.toInt ≤ 8)) ∧ (iM_failed.toInt ≤ niM_failed.toInt) ∧ (ImpP (niM_failed.toInt ≤ 0 ∧ niM_token.toInt = 59 ) (iM_end.toInt + 1 ≤ niM_end.toInt)) ∧ (POk nfM_fresh nfM_read) ∧ (PX7_innerLine fM_tape iM_size iM_at iM_end iM_token iM_whole iM_nameSize iM_fault iM_place fM_letters iM_failed fM_fresh fM_read fM_fresher iM_fresherSize p0 = (niM_at, niM_end, niM_token, niM_whole, niM_nameSize, niM_fault, niM_place, niM_failed, niM_fresherSize, nfM_letters, nfM_fresh, nfM_read, nfM_fresher)) ∧ Bw dC dI A [(oc7 oM iM_thrown rM_tape iM_taped iM_size niM_at niM_end niM_token niM_whole niM_nameSize niM_fault niM_place iM_trouble rM_letters niM_failed iM_hasCourt rM_r rM_fresh rM_told rM_read rM_st rM_undone rM_kept iM_undos iM_images rM_fresher niM_fresherSize iM_scale iM_night rM_heardRow rM_cutRow iM_breaths iM_cutMany iM_allBreaths rM_trial rM_words iM_fewestBreaths iM_orderMany iM_orderSum iM_leastOrder rM_often iM_setMany iM_someOf iM_allOf iM_allWeight iM_enoughWeight iM_worthSum iM_firstRest iM_leastDrawn), (arI rM_tape kM_tape 900 fM_tape), (arI rM_letters kM_letters 8 nfM_letters), (arI rM_fresh kM_fresh 287 nfM_fresh), (arI rM_read kM_read 90 nfM_read), (arI rM_fresher kM_fresher 8 nfM_fresher)] [(kM_tape, .int), (kM_letters, .int), (kM_fresh, .int), (kM_read, .int), (kM_fresher, .int)] t) A) ([.ref oM, .int p0] : List Value).toArray s 0 0 A) (F0 m 24 ls []) := by
      intro n_6186
      induction n_6186 with
      | zero => intro z_6173 z_6174 z_6175 z_6176 z_6177 z_6178 z_6179 z_6180 z_6181 z_6182 f_6183 f_6184 f_6185 H locs ls b_z_6176 b_z_6179 b_z_6182 hi0_n_6186 hi1_n_6186 hi2_n_6186 hi3_n_6186 hi4_n_6186 hi5_n_6186 hi6_n_6186 hi7_n_6186 hi8_n_6186 hm; exact absurd hm (Nat.not_lt_zero _)
      | succ n_6186 ih_n_6186 =>
        intro z_6173 z_6174 z_6175 z_6176 z_6177 z_6178 z_6179 z_6180 z_6181 z_6182 f_6183 f_6184 f_6185 H locs ls b_z_6176 b_z_6179 b_z_6182 hi0_n_6186 hi1_n_6186 hi2_n_6186 hi3_n_6186 hi4_n_6186 hi5_n_6186 hi6_n_6186 hi7_n_6186 hi8_n_6186 hm_n_6186 hG hP hD hS hl
        have hG := hG.trans (HX7_innerLine_0_eq _ _ _ _ _ _ _ _ _ _ _ _ _ _ _ _ _ _ _ _)
        have pl_f_6184 := hi2_n_6186.lins
        refine lv_iload hx hb dX7_innerLine_24 (lv_at hl 0 rfl) ?_
        refine lv_if_eq (tgt := 198) hx hb dX7_innerLine_26 (by decide) (fun c_6187 => ?_) (fun c_6187 => ?_)
        · skip
          have hG := hG.trans (if_pos c_6187)
          have gc_6187 := ti_eq c_6187 rfl kc_0
          have h_6188 : 1 ≤ z_6173.toInt := hi5_n_6186 (om_02e9bb08 gc_6187)
          clear hi5_n_6186
          refine lv_aload_n hx hb dX7_innerLine_198 rfl (lv_at hl 3 rfl) ?_
          refine va_get (D := (dC, dI)) (ci := 7) (v := .int z_6182) (C := RX7) (T := TX7) (N := 48) hx hb hts inX7 hown hK hP 0 rfl rfl 13 (by decide) (hts _ wd_380) (fun _ h9 => h9) rfl dX7_innerLine_199 ?_
          refine lv_if_eq (tgt := 206) hx hb dX7_innerLine_202 (by decide) (fun c_6189 => ?_) (fun c_6189 => ?_)
          · skip
            have hG := hG.trans (if_pos c_6189)
            have gc_6189 := ti_eq c_6189 rfl kc_0
            refine lv_aload_n hx hb dX7_innerLine_206 rfl (lv_at hl 3 rfl) ?_
            refine va_get (D := (dC, dI)) (ci := 7) (v := .ref rM_fresh) (C := RX7) (T := TX7) (N := 48) hx hb hts inX7 hown hK hP 0 rfl rfl 16 (by decide) (hts _ wd_156) (fun _ h9 => h9) rfl dX7_innerLine_207 ?_
            refine lv_bipush (v := 27) hx hb dX7_innerLine_210 (by decide) ?_
            refine lv_iload_n hx hb dX7_innerLine_212 rfl (lv_at hl 2 rfl) ?_
            refine lv_iadd hx hb dX7_innerLine_213 ?_
            refine lv_topi (fun x_6190 ex_6190 => ?_)
            have hG := hG.trans (lt_eq ex_6190)
            have vx_6190 : x_6190.toInt = x_6172.toInt + 27 := om_6c48219a (ti_add ex_6190 kc_27 rfl (om_41e8b5f2 pl_fM_fresh.2.2.2.2.1.1 pl_fM_fresh.2.2.2.2.1.2 cx_6172) (om_2e953c3d pl_fM_fresh.2.1 pl_fM_fresh.2.2.1.2 pl_fM_fresh.2.2.2.2.2.1.2 cx_6172))
            refine lv_iload_n hx hb dX7_innerLine_214 rfl (lv_at hl 1 rfl) ?_
            refine va_iast hx hb hK hP hD hS 3 2 rfl rfl (ti_in vx_6190 (om_88805813 pl_fM_fresh.2.2.2.2.1.1 pl_fM_fresh.2.2.2.2.1.2 cx_6172) (om_400ea2f3 pl_fM_fresh.2.1 pl_fM_fresh.2.2.1.2 pl_fM_fresh.2.2.2.2.2.1.2 cx_6172)) dX7_innerLine_215 (fun H locs hP hD hS => ?_)
            obtain ⟨f_6191, ef_6191⟩ : ∃ g : Nat → Int32, g = upd f_6184 x_6190.toNatClampNeg z_6173 := ⟨_, rfl⟩
            rw [← ef_6191] at hP hD
            have hG := hG.trans (lt_eq ef_6191)
            obtain ⟨hP, hD⟩ := wl2 (ws' := [(oc7 oM iM_thrown rM_tape iM_taped iM_size z_6175 z_6176 z_6177 z_6178 z_6179 z_6180 z_6181 iM_trouble rM_letters z_6182 iM_hasCourt rM_r rM_fresh rM_told rM_read rM_st rM_undone rM_kept iM_undos iM_images rM_fresher x_6169 iM_scale iM_night rM_heardRow rM_cutRow iM_breaths iM_cutMany iM_allBreaths rM_trial rM_words iM_fewestBreaths iM_orderMany iM_orderSum iM_leastOrder rM_often iM_setMany iM_someOf iM_allOf iM_allWeight iM_enoughWeight iM_worthSum iM_firstRest iM_leastDrawn), (arI rM_tape kM_tape 900 fM_tape), (arI rM_letters kM_letters 8 f_6183), (arI rM_fresh kM_fresh 287 f_6191), (arI rM_read kM_read 90 f_6185), (arI rM_fresher kM_fresher 8 f_6171)]) hP hD rfl
            have o1_f_6191 : (f_6191 1).toInt = (f_6184 1).toInt := put_at ef_6191 (Nat.ne_of_lt (om_748d98c6 (ti_cl (x := x_6190) vx_6190 (om_88805813 pl_fM_fresh.2.2.2.2.1.1 pl_fM_fresh.2.2.2.2.1.2 cx_6172)) pl_fM_fresh.2.2.2.2.1.1 pl_fM_fresh.2.2.2.2.1.2 cx_6172))
            have o7_f_6191 : (f_6191 7).toInt = (f_6184 7).toInt := put_at ef_6191 (Nat.ne_of_lt (om_62246ba3 (ti_cl (x := x_6190) vx_6190 (om_88805813 pl_fM_fresh.2.2.2.2.1.1 pl_fM_fresh.2.2.2.2.1.2 cx_6172)) pl_fM_fresh.2.2.2.2.1.1 pl_fM_fresh.2.2.2.2.1.2 cx_6172))
            have o8_f_6191 : (f_6191 8).toInt = (f_6184 8).toInt := put_at ef_6191 (Nat.ne_of_lt (om_4d313e7b (ti_cl (x := x_6190) vx_6190 (om_88805813 pl_fM_fresh.2.2.2.2.1.1 pl_fM_fresh.2.2.2.2.1.2 cx_6172)) pl_fM_fresh.2.2.2.2.1.1 pl_fM_fresh.2.2.2.2.1.2 cx_6172))
            refine lv_aload_n hx hb dX7_innerLine_216 rfl (lv_at hl 3 rfl) ?_
            refine lv_iload_n hx hb dX7_innerLine_217 rfl (lv_at hl 4 rfl) ?_
            have hMs := ml_of hD [true, false, false, true, false, true] (wc := [(oc7 oM iM_thrown rM_tape iM_taped iM_size z_6175 z_6176 z_6177 z_6178 z_6179 z_6180 z_6181 iM_trouble rM_letters z_6182 iM_hasCourt rM_r rM_fresh rM_told rM_read rM_st rM_undone rM_kept iM_undos iM_images rM_fresher x_6169 iM_scale iM_night rM_heardRow rM_cutRow iM_breaths iM_cutMany iM_allBreaths rM_trial rM_words iM_fewestBreaths iM_orderMany iM_orderSum iM_leastOrder rM_often iM_setMany iM_someOf iM_allOf iM_allWeight iM_enoughWeight iM_worthSum iM_firstRest iM_leastDrawn), (arI rM_fresh kM_fresh 287 f_6191), (arI rM_fresher kM_fresher 8 f_6171)]) rfl
            have hFc := va_freeM hD hS hA _ hMs
            refine va_callv (va_runV (As := [.int p0]) (rest := []) ⟨hx, hb, hml, hown, hts⟩ (tX7_lay l dC dI _ oM iM_thrown rM_tape iM_taped iM_size z_6175 z_6176 z_6177 z_6178 z_6179 z_6180 z_6181 iM_trouble rM_letters z_6182 iM_hasCourt rM_r rM_fresh f_6191 kM_fresh rM_told rM_read rM_st rM_undone rM_kept iM_undos iM_images rM_fresher f_6171 kM_fresher x_6169 iM_scale iM_night rM_heardRow rM_cutRow iM_breaths iM_cutMany iM_allBreaths rM_trial rM_words iM_fewestBreaths iM_orderMany iM_orderSum iM_leastOrder rM_often iM_setMany iM_someOf iM_allOf iM_allWeight iM_enoughWeight iM_worthSum iM_firstRest iM_leastDrawn p0 b_iM_taped b_iM_size b_z_6176 b_z_6179 b_z_6182 b_iM_hasCourt b_iM_undos b_iM_images b_iM_scale b_iM_breaths b_iM_cutMany hi6_n_6186 (om_02e9bb08 gc_6189) ⟨(om_a12d6474 pl_f_6184.2.2.2.2.1.1 pl_f_6184.2.2.2.2.1.2 o1_f_6191), (om_10e45097 pl_fM_fresh.2.1 pl_fM_fresh.2.2.1.2 h_6160 hi4_n_6186.1 o1_f_6191)⟩) (cwV 1 hts (wd_V wd_478 wd_479 wd_480 wd_5 (wd_c wd_481)) rfl rfl rfl dv_yX7_lay_1 ⟨Nat.le_of_ble_eq_true rfl, Nat.le_of_ble_eq_true rfl⟩) ⟨Pw.fb, recvX7 hK hP (q0 := 0) rfl, fun U hU hW => Pw.to (hP.ms _ hMs) (hD.ms _ hMs) (hK.ms [false, false, true, false, true] rfl) hE hS hFc hU hW⟩ rfl rfl hl.1 rfl (lv_room (Nat.le_of_ble_eq_true rfl)) dX7_innerLine_218 ⟨Nat.le_of_ble_eq_true rfl, Nat.le_of_ble_eq_true rfl⟩) hS (fun q _ h => hFc q h) hFc (fun u t H locs ht hvm hw hB hz1 hk1 hS => ?_)
            refine ex_1_2 hB (fun f_6192 e_f_6192_0 e_f_6192_1 hB => ?_)
            obtain ⟨hP, hD⟩ := Bw.goN (ws' := [(oc7 oM iM_thrown rM_tape iM_taped iM_size z_6175 z_6176 z_6177 z_6178 z_6179 z_6180 z_6181 iM_trouble rM_letters z_6182 iM_hasCourt rM_r rM_fresh rM_told rM_read rM_st rM_undone rM_kept iM_undos iM_images rM_fresher x_6169 iM_scale iM_night rM_heardRow rM_cutRow iM_breaths iM_cutMany iM_allBreaths rM_trial rM_words iM_fewestBreaths iM_orderMany iM_orderSum iM_leastOrder rM_often iM_setMany iM_someOf iM_allOf iM_allWeight iM_enoughWeight iM_worthSum iM_firstRest iM_leastDrawn), (arI rM_tape kM_tape 900 fM_tape), (arI rM_letters kM_letters 8 f_6183), (arI rM_fresh kM_fresh 287 f_6192), (arI rM_read kM_read 90 f_6185), (arI rM_fresher kM_fresher 8 f_6171)]) hB rfl ht hP hD _ hMs hk1 hFc rfl
            clear hz1 hk1 hvm ht hB hMs
            have o2_f_6192 : (f_6192 2).toInt = (f_6191 2).toInt := by rw [(e_f_6192_0).2.2.1 2 (by decide) (by decide) (Nat.ne_of_lt (Nat.lt_of_lt_of_le (by decide) (Nat.le_add_right 9 _)))]
            have o7_f_6192 : (f_6192 7).toInt = (f_6191 7).toInt := by rw [(e_f_6192_0).2.2.1 7 (by decide) (by decide) (Nat.ne_of_lt (Nat.lt_of_lt_of_le (by decide) (Nat.le_add_right 9 _)))]
            have o8_f_6192 : (f_6192 8).toInt = (f_6191 8).toInt := by rw [(e_f_6192_0).2.2.1 8 (by decide) (by decide) (Nat.ne_of_lt (Nat.lt_of_lt_of_le (by decide) (Nat.le_add_right 9 _)))]
            have hG := hG.trans (lt_eq e_f_6192_1.symm)
            refine lv_aload_n hx hb dX7_innerLine_221 rfl (lv_at hl 3 rfl) ?_
            refine va_get (D := (dC, dI)) (ci := 7) (v := .ref rM_fresh) (C := RX7) (T := TX7) (N := 48) hx hb hts inX7 hown hK hP 0 rfl rfl 16 (by decide) (hts _ wd_156) (fun _ h9 => h9) rfl dX7_innerLine_222 ?_
            refine lv_bipush (v := 7) hx hb dX7_innerLine_225 (by decide) ?_
            refine lv_dup2_11 hx hb dX7_innerLine_227 rfl rfl ?_
            refine va_iald hx hb hK hP 3 2 rfl rfl (by unfold vp_in; decide) dX7_innerLine_228 ?_
            refine lv_topi (fun x_6193 ex_6193 => ?_)
            have hG := hG.trans (lt_eq ex_6193)
            have cx_6193 : (f_6192 7).toInt = x_6193.toInt := congrArg Int32.toInt (show f_6192 7 = x_6193 from ex_6193.symm)
            refine lv_iconst (v := 1) hx hb dX7_innerLine_229 (by decide) ?_
            refine lv_iadd hx hb dX7_innerLine_230 ?_
            refine lv_topi (fun x_6194 ex_6194 => ?_)
            have hG := hG.trans (lt_eq ex_6194)
            have vx_6194 : x_6194.toInt = x_6193.toInt + 1 := ti_add ex_6194 rfl kc_1 (om_5f3e4666 pl_f_6184.2.2.2.2.2.1.1 o7_f_6191 o7_f_6192 cx_6193) (om_ac8e3760 pl_f_6184.2.2.2.2.2.1.2 o7_f_6191 o7_f_6192 cx_6193)
            refine va_iast hx hb hK hP hD hS 3 2 rfl rfl (by unfold vp_in; decide) dX7_innerLine_231 (fun H locs hP hD hS => ?_)
            obtain ⟨f_6195, ef_6195⟩ : ∃ g : Nat → Int32, g = upd f_6192 (7 : Int32).toNatClampNeg x_6194 := ⟨_, rfl⟩
            rw [← ef_6195] at hP hD
            have hG := hG.trans (lt_eq ef_6195)
            obtain ⟨hP, hD⟩ := wl2 (ws' := [(oc7 oM iM_thrown rM_tape iM_taped iM_size z_6175 z_6176 z_6177 z_6178 z_6179 z_6180 z_6181 iM_trouble rM_letters z_6182 iM_hasCourt rM_r rM_fresh rM_told rM_read rM_st rM_undone rM_kept iM_undos iM_images rM_fresher x_6169 iM_scale iM_night rM_heardRow rM_cutRow iM_breaths iM_cutMany iM_allBreaths rM_trial rM_words iM_fewestBreaths iM_orderMany iM_orderSum iM_leastOrder rM_often iM_setMany iM_someOf iM_allOf iM_allWeight iM_enoughWeight iM_worthSum iM_firstRest iM_leastDrawn), (arI rM_tape kM_tape 900 fM_tape), (arI rM_letters kM_letters 8 f_6183), (arI rM_fresh kM_fresh 287 f_6195), (arI rM_read kM_read 90 f_6185), (arI rM_fresher kM_fresher 8 f_6171)]) hP hD rfl
            have o8_f_6195 : (f_6195 8).toInt = (f_6192 8).toInt := put_at ef_6195 (by decide)
            refine lv_aload_n hx hb dX7_innerLine_232 rfl (lv_at hl 3 rfl) ?_
            refine va_get (D := (dC, dI)) (ci := 7) (v := .ref rM_fresh) (C := RX7) (T := TX7) (N := 48) hx hb hts inX7 hown hK hP 0 rfl rfl 16 (by decide) (hts _ wd_156) (fun _ h9 => h9) rfl dX7_innerLine_233 ?_
            refine lv_bipush (v := 8) hx hb dX7_innerLine_236 (by decide) ?_
            refine lv_dup2_11 hx hb dX7_innerLine_238 rfl rfl ?_
            refine va_iald hx hb hK hP 3 2 rfl rfl (by unfold vp_in; decide) dX7_innerLine_239 ?_
            refine lv_topi (fun x_6196 ex_6196 => ?_)
            have hG := hG.trans (lt_eq ex_6196)
            have cx_6196 : (f_6195 8).toInt = x_6196.toInt := congrArg Int32.toInt (show f_6195 8 = x_6196 from ex_6196.symm)
            refine lv_iload_n hx hb dX7_innerLine_240 rfl (lv_at hl 4 rfl) ?_
            refine lv_iconst (v := 3) hx hb dX7_innerLine_241 (by decide) ?_
            refine lv_icmp_ne (tgt := 249) hx hb dX7_innerLine_242 (by decide) (fun c_6197 => ?_) (fun c_6197 => ?_)
            · skip
              have hG := hG.trans (if_neg c_6197)
              have gc_6197 := ti_ne c_6197 rfl kc_3
              replace gc_6197 : p0.toInt + (-2) ≤ 0 := om_b7ea5ffe gc_6197 hp0.2
              clear hic
              refine lv_iconst (v := 0) hx hb dX7_innerLine_249 (by decide) ?_
              refine lv_iadd hx hb dX7_innerLine_250 ?_
              refine lv_topi (fun x_6198 ex_6198 => ?_)
              have hG := hG.trans (lt_eq ex_6198)
              have vx_6198 : x_6198.toInt = x_6196.toInt := om_75165550 (ti_add ex_6198 rfl kc_0 (om_5483085b pl_f_6184.2.2.2.2.2.2.1 o8_f_6191 o8_f_6192 o8_f_6195 cx_6196) (om_2ab9c540 pl_f_6184.2.2.2.2.2.2.2 o8_f_6191 o8_f_6192 o8_f_6195 cx_6196))
              refine va_iast hx hb hK hP hD hS 3 2 rfl rfl (by unfold vp_in; decide) dX7_innerLine_251 (fun H locs hP hD hS => ?_)
              obtain ⟨f_6199, ef_6199⟩ : ∃ g : Nat → Int32, g = upd f_6195 (8 : Int32).toNatClampNeg x_6198 := ⟨_, rfl⟩
              rw [← ef_6199] at hP hD
              have hG := hG.trans (lt_eq ef_6199)
              obtain ⟨hP, hD⟩ := wl2 (ws' := [(oc7 oM iM_thrown rM_tape iM_taped iM_size z_6175 z_6176 z_6177 z_6178 z_6179 z_6180 z_6181 iM_trouble rM_letters z_6182 iM_hasCourt rM_r rM_fresh rM_told rM_read rM_st rM_undone rM_kept iM_undos iM_images rM_fresher x_6169 iM_scale iM_night rM_heardRow rM_cutRow iM_breaths iM_cutMany iM_allBreaths rM_trial rM_words iM_fewestBreaths iM_orderMany iM_orderSum iM_leastOrder rM_often iM_setMany iM_someOf iM_allOf iM_allWeight iM_enoughWeight iM_worthSum iM_firstRest iM_leastDrawn), (arI rM_tape kM_tape 900 fM_tape), (arI rM_letters kM_letters 8 f_6183), (arI rM_fresh kM_fresh 287 f_6199), (arI rM_read kM_read 90 f_6185), (arI rM_fresher kM_fresher 8 f_6171)]) hP hD rfl
              have pk_f_6199 : POk f_6199 f_6185 := POk.inner (f := f_6184) (m := z_6173.toNatClampNeg) hi2_n_6186 ef_6191 (by have q9 := ti_cl (x := x_6190) vx_6190 (om_88805813 pl_fM_fresh.2.2.2.2.1.1 pl_fM_fresh.2.2.2.2.1.2 cx_6172); have q2 := ti_cl (x := f_6184 1) rfl (by omega); omega) (by have q3 := ti_cl (x := z_6173) rfl hi0_n_6186.1; omega) (by have q3 := ti_cl (x := z_6173) rfl hi0_n_6186.1; omega) (by have q3 := ti_cl (x := z_6173) rfl hi0_n_6186.1; omega) e_f_6192_0 (by omega) ef_6195 rfl (by have q := vx_6194; omega) ef_6199 rfl (by have q := vx_6198; have q0 := kc_0; have q1 := kc_1; first | (rw [if_pos (by omega)]; omega) | (rw [if_neg (by omega)]; omega)) (by omega) (fun h9 => by omega) hi3_n_6186
              have pl_f_6199 := pk_f_6199.lins
              exact wq_v hx hb hr 0 trivial (fun t ht hW => ⟨z_6175, z_6176, z_6177, z_6178, z_6179, z_6180, z_6181, z_6182, x_6169, f_6183, f_6199, f_6185, f_6171, b_z_6176, b_z_6179, b_z_6182, hi7_n_6186, hi6_n_6186, (om_1fc3dec6 gc_6159 b_z_6182.1), hi8_n_6186, pk_f_6199, hG, Bw.to hP hD hK ht hW⟩) hS dX7_innerLine_252 hlocks
            · skip
              have hG := hG.trans (if_pos c_6197)
              have gc_6197 := ti_eq c_6197 rfl kc_3
              have h_6200 : (fM_fresh 8).toInt ≤ 1 := hic ⟨(om_02e9bb08 gc_6159), (om_ce492ef9 hp0.2 gc_6197)⟩
              clear hic
              refine lv_iconst (v := 1) hx hb dX7_innerLine_245 (by decide) ?_
              refine lv_goto (tgt := 250) hx hb dX7_innerLine_246 (by decide) ?_
              refine lv_iadd hx hb dX7_innerLine_250 ?_
              refine lv_topi (fun x_6201 ex_6201 => ?_)
              have hG := hG.trans (lt_eq ex_6201)
              have vx_6201 : x_6201.toInt = x_6196.toInt + 1 := ti_add ex_6201 rfl kc_1 (om_d0c17b76 pl_f_6184.2.2.2.2.2.2.1 o8_f_6191 o8_f_6192 o8_f_6195 cx_6196) (om_387097be pl_f_6184.2.2.2.2.2.2.2 o8_f_6191 o8_f_6192 o8_f_6195 cx_6196)
              refine va_iast hx hb hK hP hD hS 3 2 rfl rfl (by unfold vp_in; decide) dX7_innerLine_251 (fun H locs hP hD hS => ?_)
              obtain ⟨f_6202, ef_6202⟩ : ∃ g : Nat → Int32, g = upd f_6195 (8 : Int32).toNatClampNeg x_6201 := ⟨_, rfl⟩
              rw [← ef_6202] at hP hD
              have hG := hG.trans (lt_eq ef_6202)
              obtain ⟨hP, hD⟩ := wl2 (ws' := [(oc7 oM iM_thrown rM_tape iM_taped iM_size z_6175 z_6176 z_6177 z_6178 z_6179 z_6180 z_6181 iM_trouble rM_letters z_6182 iM_hasCourt rM_r rM_fresh rM_told rM_read rM_st rM_undone rM_kept iM_undos iM_images rM_fresher x_6169 iM_scale iM_night rM_heardRow rM_cutRow iM_breaths iM_cutMany iM_allBreaths rM_trial rM_words iM_fewestBreaths iM_orderMany iM_orderSum iM_leastOrder rM_often iM_setMany iM_someOf iM_allOf iM_allWeight iM_enoughWeight iM_worthSum iM_firstRest iM_leastDrawn), (arI rM_tape kM_tape 900 fM_tape), (arI rM_letters kM_letters 8 f_6183), (arI rM_fresh kM_fresh 287 f_6202), (arI rM_read kM_read 90 f_6185), (arI rM_fresher kM_fresher 8 f_6171)]) hP hD rfl
              have pk_f_6202 : POk f_6202 f_6185 := POk.inner (f := f_6184) (m := z_6173.toNatClampNeg) hi2_n_6186 ef_6191 (by have q9 := ti_cl (x := x_6190) vx_6190 (om_88805813 pl_fM_fresh.2.2.2.2.1.1 pl_fM_fresh.2.2.2.2.1.2 cx_6172); have q2 := ti_cl (x := f_6184 1) rfl (by omega); omega) (by have q3 := ti_cl (x := z_6173) rfl hi0_n_6186.1; omega) (by have q3 := ti_cl (x := z_6173) rfl hi0_n_6186.1; omega) (by have q3 := ti_cl (x := z_6173) rfl hi0_n_6186.1; omega) e_f_6192_0 (by omega) ef_6195 rfl (by have q := vx_6194; omega) ef_6202 rfl (by have q := vx_6201; have q0 := kc_0; have q1 := kc_1; first | (rw [if_pos (by omega)]; omega) | (rw [if_neg (by omega)]; omega)) (by omega) (fun h9 => by omega) hi3_n_6186
              have pl_f_6202 := pk_f_6202.lins
              exact wq_v hx hb hr 0 trivial (fun t ht hW => ⟨z_6175, z_6176, z_6177, z_6178, z_6179, z_6180, z_6181, z_6182, x_6169, f_6183, f_6202, f_6185, f_6171, b_z_6176, b_z_6179, b_z_6182, hi7_n_6186, hi6_n_6186, (om_1fc3dec6 gc_6159 b_z_6182.1), hi8_n_6186, pk_f_6202, hG, Bw.to hP hD hK ht hW⟩) hS dX7_innerLine_252 hlocks
          · skip
            have hG := hG.trans (if_neg c_6189)
            have gc_6189 := ti_ne c_6189 rfl kc_0
            replace gc_6189 : (-1) * z_6182.toInt + 1 ≤ 0 := om_e3003f79 gc_6189 b_z_6182.1
            exact wq_v hx hb hr 0 trivial (fun t ht hW => ⟨z_6175, z_6176, z_6177, z_6178, z_6179, z_6180, z_6181, z_6182, x_6169, f_6183, f_6184, f_6185, f_6171, b_z_6176, b_z_6179, b_z_6182, hi7_n_6186, hi6_n_6186, (om_1fc3dec6 gc_6159 b_z_6182.1), hi8_n_6186, hi2_n_6186, hG, Bw.to hP hD hK ht hW⟩) hS dX7_innerLine_205 hlocks
        · skip
          have hG := hG.trans (if_neg c_6187)
          have gc_6187 := ti_ne c_6187 rfl kc_0
          replace gc_6187 : (-1) * z_6174.toInt + 1 ≤ 0 := om_e3003f79 gc_6187 hi1_n_6186.1
          clear hi5_n_6186
          refine lv_aload_n hx hb dX7_innerLine_29 rfl (lv_at hl 3 rfl) ?_
          refine va_get (D := (dC, dI)) (ci := 7) (v := .int z_6182) (C := RX7) (T := TX7) (N := 48) hx hb hts inX7 hown hK hP 0 rfl rfl 13 (by decide) (hts _ wd_380) (fun _ h9 => h9) rfl dX7_innerLine_30 ?_
          refine lv_if_ne (tgt := 198) hx hb dX7_innerLine_33 (by decide) (fun c_6203 => ?_) (fun c_6203 => ?_)
          · skip
            have hG := hG.trans (if_neg c_6203)
            have gc_6203 := ti_ne c_6203 rfl kc_0
            replace gc_6203 : (-1) * z_6182.toInt + 1 ≤ 0 := om_e3003f79 gc_6203 b_z_6182.1
            refine lv_aload_n hx hb dX7_innerLine_198 rfl (lv_at hl 3 rfl) ?_
            refine va_get (D := (dC, dI)) (ci := 7) (v := .int z_6182) (C := RX7) (T := TX7) (N := 48) hx hb hts inX7 hown hK hP 0 rfl rfl 13 (by decide) (hts _ wd_380) (fun _ h9 => h9) rfl dX7_innerLine_199 ?_
            refine lv_if_eq (tgt := 206) hx hb dX7_innerLine_202 (by decide) (fun c_6204 => ?_) (fun c_6204 => ?_)
            · skip
              have hG := hG.trans (if_pos c_6204)
              have gc_6204 := ti_eq c_6204 rfl kc_0
              exact ((om_77e4ddb5 gc_6203 gc_6204)).elim
            · skip
              have hG := hG.trans (if_neg c_6204)
              have gc_6204 := ti_ne c_6204 rfl kc_0
              replace gc_6204 : (-1) * z_6182.toInt + 1 ≤ 0 := om_e3003f79 gc_6204 b_z_6182.1
              exact wq_v hx hb hr 0 trivial (fun t ht hW => ⟨z_6175, z_6176, z_6177, z_6178, z_6179, z_6180, z_6181, z_6182, x_6169, f_6183, f_6184, f_6185, f_6171, b_z_6176, b_z_6179, b_z_6182, hi7_n_6186, hi6_n_6186, (om_1fc3dec6 gc_6159 b_z_6182.1), hi8_n_6186, hi2_n_6186, hG, Bw.to hP hD hK ht hW⟩) hS dX7_innerLine_205 hlocks
          · skip
            have hG := hG.trans (if_pos c_6203)
            have gc_6203 := ti_eq c_6203 rfl kc_0
            refine lv_aload_n hx hb dX7_innerLine_36 rfl (lv_at hl 3 rfl) ?_
            have hMs := ml_of hD [true, false, true, true, true, false] (wc := [(oc7 oM iM_thrown rM_tape iM_taped iM_size z_6175 z_6176 z_6177 z_6178 z_6179 z_6180 z_6181 iM_trouble rM_letters z_6182 iM_hasCourt rM_r rM_fresh rM_told rM_read rM_st rM_undone rM_kept iM_undos iM_images rM_fresher x_6169 iM_scale iM_night rM_heardRow rM_cutRow iM_breaths iM_cutMany iM_allBreaths rM_trial rM_words iM_fewestBreaths iM_orderMany iM_orderSum iM_leastOrder rM_often iM_setMany iM_someOf iM_allOf iM_allWeight iM_enoughWeight iM_worthSum iM_firstRest iM_leastDrawn), (arI rM_letters kM_letters 8 f_6183), (arI rM_fresh kM_fresh 287 f_6184), (arI rM_read kM_read 90 f_6185)]) rfl
            have hFc := va_freeM hD hS hA _ hMs
            refine va_calli (va_runV (As := []) (rest := []) ⟨hx, hb, hml, hown, hts⟩ (tX7_nodeHere l dC dI _ oM iM_thrown rM_tape iM_taped iM_size z_6175 z_6176 z_6177 z_6178 z_6179 z_6180 z_6181 iM_trouble rM_letters f_6183 kM_letters z_6182 iM_hasCourt rM_r rM_fresh f_6184 kM_fresh rM_told rM_read f_6185 kM_read rM_st rM_undone rM_kept iM_undos iM_images rM_fresher x_6169 iM_scale iM_night rM_heardRow rM_cutRow iM_breaths iM_cutMany iM_allBreaths rM_trial rM_words iM_fewestBreaths iM_orderMany iM_orderSum iM_leastOrder rM_often iM_setMany iM_someOf iM_allOf iM_allWeight iM_enoughWeight iM_worthSum iM_firstRest iM_leastDrawn b_iM_taped b_iM_size b_z_6176 b_z_6179 b_z_6182 b_iM_hasCourt b_iM_undos b_iM_images b_iM_scale b_iM_breaths b_iM_cutMany hi6_n_6186 hi2_n_6186) (cwV 0 hts (wd_V wd_486 wd_487 wd_488 wd_5 (wd_c wd_489)) rfl rfl rfl dv_yX7_nodeHere_0 ⟨Nat.le_of_ble_eq_true rfl, Nat.le_of_ble_eq_true rfl⟩) ⟨Pw.fb, recvX7 hK hP (q0 := 0) rfl, fun U hU hW => Pw.to (hP.ms _ hMs) (hD.ms _ hMs) (hK.ms [false, true, true, true, false] rfl) hE hS hFc hU hW⟩ rfl rfl hl.1 rfl (lv_room (Nat.le_of_ble_eq_true rfl)) dX7_innerLine_37 ⟨Nat.le_of_ble_eq_true rfl, Nat.le_of_ble_eq_true rfl⟩) hS (fun q _ h => hFc q h) hFc (fun r u t H locs ht hvm hw hB hz1 hk1 hS => ?_)
            have hru9 := hw.2
            have hw := hw.1
            refine ex_3_4 hB (fun x_6205 x_6206 x_6207 b_x_6207 e_x_6205_0 e_x_6205_1 e_x_6205_2 hB => ?_)
            obtain ⟨hP, hD⟩ := Bw.goN (ws' := [(oc7 oM iM_thrown rM_tape iM_taped iM_size z_6175 z_6176 z_6177 z_6178 z_6179 x_6205 x_6206 iM_trouble rM_letters x_6207 iM_hasCourt rM_r rM_fresh rM_told rM_read rM_st rM_undone rM_kept iM_undos iM_images rM_fresher x_6169 iM_scale iM_night rM_heardRow rM_cutRow iM_breaths iM_cutMany iM_allBreaths rM_trial rM_words iM_fewestBreaths iM_orderMany iM_orderSum iM_leastOrder rM_often iM_setMany iM_someOf iM_allOf iM_allWeight iM_enoughWeight iM_worthSum iM_firstRest iM_leastDrawn), (arI rM_tape kM_tape 900 fM_tape), (arI rM_letters kM_letters 8 f_6183), (arI rM_fresh kM_fresh 287 f_6184), (arI rM_read kM_read 90 f_6185), (arI rM_fresher kM_fresher 8 f_6171)]) hB rfl ht hP hD _ hMs hk1 hFc rfl
            clear hz1 hk1 hvm ht hB hMs
            rw [← hru9] at e_x_6205_2
            obtain ⟨x_6208, rfl⟩ : ∃ z, z = r := ⟨_, rfl⟩
            have hG := hG.trans (un4_eq e_x_6205_2)
            have lx_6208 := hw.2
            have ux_6208 := hw.2
            refine lv_istore (lv' := [(5, .int x_6208), (4, .int z_6174), (3, .int z_6173), (2, .int x_6172), (0, .ref oM), (1, .int p0)]) hx hb dX7_innerLine_40 hl (by decide) rfl (fun ls hl => ?_)
            refine lv_iconst (v := 0) hx hb dX7_innerLine_42 (by decide) ?_
            refine lv_istore (lv' := [(6, .int 0), (5, .int x_6208), (4, .int z_6174), (3, .int z_6173), (2, .int x_6172), (0, .ref oM), (1, .int p0)]) hx hb dX7_innerLine_43 hl (by decide) rfl (fun ls hl => ?_)
            have hl := lv_sub hl (l' := [(6, .int 0), (5, .int x_6208), (4, .int z_6174), (3, .int z_6173), (2, .int x_6172), (0, .ref oM), (1, .int p0)]) [0, 1, 2, 3, 4, 5, 6] rfl
            have key_n_6213 : ∀ (n_6213 : Nat) (z_6209 : Int32) (z_6210 : Int32) (z_6211 : Int32) (z_6212 : Int32) (H : Heap) (locs : List Loc) (ls : Array Slot), (0 ≤ z_6210.toInt ∧ z_6210.toInt ≤ 1) → (0 ≤ z_6209.toInt ∧ z_6209.toInt ≤ z_6173.toInt) → (x_6207.toInt ≤ z_6210.toInt) → (NeI z_6210.toInt z_6209.toNatClampNeg f_6185 x_6172.toNatClampNeg x_6208.toInt) → (z_6173.toInt - z_6209.toInt).toNat < n_6213 → (PX7_innerLine fM_tape iM_size iM_at iM_end iM_token iM_whole iM_nameSize iM_fault iM_place fM_letters iM_failed fM_fresh fM_read fM_fresher iM_fresherSize p0 = HX7_innerLine_1 fM_tape iM_size p0 x_6169 f_6171 x_6172 z_6173 z_6175 z_6176 z_6177 z_6178 z_6179 f_6183 f_6184 f_6185 x_6208 (fun (z_6173 : Int32) (z_6174 : Int32) (z_6175 : Int32) (z_6176 : Int32) (z_6177 : Int32) (z_6178 : Int32) (z_6179 : Int32) (z_6180 : Int32) (z_6181 : Int32) (z_6182 : Int32) (f_6183 : Nat → Int32) (f_6184 : Nat → Int32) (f_6185 : Nat → Int32) => HX7_innerLine_0 fM_tape iM_size p0 x_6169 f_6171 x_6172 n_6186 z_6173 z_6174 z_6175 z_6176 z_6177 z_6178 z_6179 z_6180 z_6181 z_6182 f_6183 f_6184 f_6185) n_6213 z_6209 z_6210 z_6211 z_6212) → va_P (dC, dI) vwCl [(oc7 oM iM_thrown rM_tape iM_taped iM_size z_6175 z_6176 z_6177 z_6178 z_6179 z_6211 z_6212 iM_trouble rM_letters z_6210 iM_hasCourt rM_r rM_fresh rM_told rM_read rM_st rM_undone rM_kept iM_undos iM_images rM_fresher x_6169 iM_scale iM_night rM_heardRow rM_cutRow iM_breaths iM_cutMany iM_allBreaths rM_trial rM_words iM_fewestBreaths iM_orderMany iM_orderSum iM_leastOrder rM_often iM_setMany iM_someOf iM_allOf iM_allWeight iM_enoughWeight iM_worthSum iM_firstRest iM_leastDrawn), (arI rM_tape kM_tape 900 fM_tape), (arI rM_letters kM_letters 8 f_6183), (arI rM_fresh kM_fresh 287 f_6184), (arI rM_read kM_read 90 f_6185), (arI rM_fresher kM_fresher 8 f_6171)] H → va_D A [(oc7 oM iM_thrown rM_tape iM_taped iM_size z_6175 z_6176 z_6177 z_6178 z_6179 z_6211 z_6212 iM_trouble rM_letters z_6210 iM_hasCourt rM_r rM_fresh rM_told rM_read rM_st rM_undone rM_kept iM_undos iM_images rM_fresher x_6169 iM_scale iM_night rM_heardRow rM_cutRow iM_breaths iM_cutMany iM_allBreaths rM_trial rM_words iM_fewestBreaths iM_orderMany iM_orderSum iM_leastOrder rM_often iM_setMany iM_someOf iM_allOf iM_allWeight iM_enoughWeight iM_worthSum iM_firstRest iM_leastDrawn), (arI rM_tape kM_tape 900 fM_tape), (arI rM_letters kM_letters 8 f_6183), (arI rM_fresh kM_fresh 287 f_6184), (arI rM_read kM_read 90 f_6185), (arI rM_fresher kM_fresher 8 f_6171)] → va_S A s.heap H locs → lv_has ls 7 [(6, .int z_6209), (5, .int x_6208), (4, .int z_6174), (3, .int z_6173), (2, .int x_6172), (0, .ref oM), (1, .int p0)] → W p l e (headSpec (Cond.code yX7_innerLine cX7_innerLine 7 none :: wG) ({ frames := 7, cells := 0, slots := 0, locals := 175 })).room s m ([.ref oM, .int p0] : List Value).toArray below meth c H locs 0 0 (MQ below (va_Qv (fun (_ : Nat) => True) (fun (_ : Nat) (t : State) => ∃ (niM_at : Int32) (niM_end : Int32) (niM_token : Int32) (niM_whole : Int32) (niM_nameSize : Int32) (niM_fault : Int32) (niM_place : Int32) (niM_failed : Int32) (niM_fresherSize : Int32) (nfM_letters : Nat → Int32) (nfM_fresh : Nat → Int32) (nfM_read : Nat → Int32) (nfM_fresher : Nat → Int32), (0 ≤ niM_end.toInt ∧ niM_end.toInt ≤ 900) ∧ (0 ≤ niM_nameSize.toInt ∧ niM_nameSize.toInt ≤ 900) ∧ (0 ≤ niM_failed.toInt ∧ niM_failed.toInt ≤ 1) ∧ (iM_end.toInt ≤ niM_end.toInt) ∧ (ImpP (niM_token.toInt = 2) (niM_nameSize.toInt ≤ 8)) ∧ (iM_failed.toInt ≤ niM_failed.toInt) ∧ (ImpP (niM_failed.toInt ≤ 0 ∧ niM_token.toInt = 59 ) (iM_end.toInt + 1 ≤ niM_end.toInt)) ∧ (POk nfM_fresh nfM_read) ∧ (PX7_innerLine fM_tape iM_size iM_at iM_end iM_token iM_whole iM_nameSize iM_fault iM_place fM_letters iM_failed fM_fresh fM_read fM_fresher iM_fresherSize p0 = (niM_at, niM_end, niM_token, niM_whole, niM_nameSize, niM_fault, niM_place, niM_failed, niM_fresherSize, nfM_letters, nfM_fresh, nfM_read, nfM_fresher)) ∧ Bw dC dI A [(oc7 oM iM_thrown rM_tape iM_taped iM_size niM_at niM_end niM_token niM_whole niM_nameSize niM_fault niM_place iM_trouble rM_letters niM_failed iM_hasCourt rM_r rM_fresh rM_told rM_read rM_st rM_undone rM_kept iM_undos iM_images rM_fresher niM_fresherSize iM_scale iM_night rM_heardRow rM_cutRow iM_breaths iM_cutMany iM_allBreaths rM_trial rM_words iM_fewestBreaths iM_orderMany iM_orderSum iM_leastOrder rM_often iM_setMany iM_someOf iM_allOf iM_allWeight iM_enoughWeight iM_worthSum iM_firstRest iM_leastDrawn), (arI rM_tape kM_tape 900 fM_tape), (arI rM_letters kM_letters 8 nfM_letters), (arI rM_fresh kM_fresh 287 nfM_fresh), (arI rM_read kM_read 90 nfM_read), (arI rM_fresher kM_fresher 8 nfM_fresher)] [(kM_tape, .int), (kM_letters, .int), (kM_fresh, .int), (kM_read, .int), (kM_fresher, .int)] t) A) ([.ref oM, .int p0] : List Value).toArray s 0 0 A) (F0 m 45 ls []) := by
              intro n_6213
              induction n_6213 with
              | zero => intro z_6209 z_6210 z_6211 z_6212 H locs ls b_z_6210 hi0_n_6213 hi1_n_6213 hi2_n_6213 hm; exact absurd hm (Nat.not_lt_zero _)
              | succ n_6213 ih_n_6213 =>
                intro z_6209 z_6210 z_6211 z_6212 H locs ls b_z_6210 hi0_n_6213 hi1_n_6213 hi2_n_6213 hm_n_6213 hG hP hD hS hl
                have hG := hG.trans (HX7_innerLine_1_eq _ _ _ _ _ _ _ _ _ _ _ _ _ _ _ _ _ _ _ _ _ _)
                refine lv_iload hx hb dX7_innerLine_45 (lv_at hl 0 rfl) ?_
                refine lv_iload_n hx hb dX7_innerLine_47 rfl (lv_at hl 3 rfl) ?_
                refine lv_icmp_ge (tgt := 89) hx hb dX7_innerLine_48 (by decide) (fun c_6214 => ?_) (fun c_6214 => ?_)
                · skip
                  have hG := hG.trans (if_pos c_6214)
                  have gc_6214 := ti_le c_6214 rfl rfl
                  refine lv_aload_n hx hb dX7_innerLine_89 rfl (lv_at hl 5 rfl) ?_
                  refine va_get (D := (dC, dI)) (ci := 7) (v := .int z_6210) (C := RX7) (T := TX7) (N := 48) hx hb hts inX7 hown hK hP 0 rfl rfl 13 (by decide) (hts _ wd_380) (fun _ h9 => h9) rfl dX7_innerLine_90 ?_
                  refine lv_if_ne (tgt := 110) hx hb dX7_innerLine_93 (by decide) (fun c_6215 => ?_) (fun c_6215 => ?_)
                  · skip
                    have hG := hG.trans (if_neg c_6215)
                    have gc_6215 := ti_ne c_6215 rfl kc_0
                    replace gc_6215 : (-1) * z_6210.toInt + 1 ≤ 0 := om_e3003f79 gc_6215 b_z_6210.1
                    refine lv_aload_n hx hb dX7_innerLine_110 rfl (lv_at hl 5 rfl) ?_
                    have hMs := ml_of hD [true, true, true, false, false, false] (wc := [(oc7 oM iM_thrown rM_tape iM_taped iM_size z_6175 z_6176 z_6177 z_6178 z_6179 z_6211 z_6212 iM_trouble rM_letters z_6210 iM_hasCourt rM_r rM_fresh rM_told rM_read rM_st rM_undone rM_kept iM_undos iM_images rM_fresher x_6169 iM_scale iM_night rM_heardRow rM_cutRow iM_breaths iM_cutMany iM_allBreaths rM_trial rM_words iM_fewestBreaths iM_orderMany iM_orderSum iM_leastOrder rM_often iM_setMany iM_someOf iM_allOf iM_allWeight iM_enoughWeight iM_worthSum iM_firstRest iM_leastDrawn), (arI rM_tape kM_tape 900 fM_tape), (arI rM_letters kM_letters 8 f_6183)]) rfl
                    have hFc := va_freeM hD hS hA _ hMs
                    refine va_callv (va_runV (As := []) (rest := []) ⟨hx, hb, hml, hown, hts⟩ (tX7_pass l dC dI _ oM iM_thrown rM_tape fM_tape kM_tape iM_taped iM_size z_6175 z_6176 z_6177 z_6178 z_6179 z_6211 z_6212 iM_trouble rM_letters f_6183 kM_letters z_6210 iM_hasCourt rM_r rM_fresh rM_told rM_read rM_st rM_undone rM_kept iM_undos iM_images rM_fresher x_6169 iM_scale iM_night rM_heardRow rM_cutRow iM_breaths iM_cutMany iM_allBreaths rM_trial rM_words iM_fewestBreaths iM_orderMany iM_orderSum iM_leastOrder rM_often iM_setMany iM_someOf iM_allOf iM_allWeight iM_enoughWeight iM_worthSum iM_firstRest iM_leastDrawn b_iM_taped b_iM_size b_z_6176 b_z_6179 b_z_6210 b_iM_hasCourt b_iM_undos b_iM_images b_iM_scale b_iM_breaths b_iM_cutMany hi6_n_6186) (cwV 0 hts (wd_V wd_454 wd_455 wd_456 wd_5 (wd_c wd_457)) rfl rfl rfl dv_yX7_pass_0 ⟨Nat.le_of_ble_eq_true rfl, Nat.le_of_ble_eq_true rfl⟩) ⟨Pw.fb, recvX7 hK hP (q0 := 0) rfl, fun U hU hW => Pw.to (hP.ms _ hMs) (hD.ms _ hMs) (hK.ms [true, true, false, false, false] rfl) hE hS hFc hU hW⟩ rfl rfl hl.1 rfl (lv_room (Nat.le_of_ble_eq_true rfl)) dX7_innerLine_111 ⟨Nat.le_of_ble_eq_true rfl, Nat.le_of_ble_eq_true rfl⟩) hS (fun q _ h => hFc q h) hFc (fun u t H locs ht hvm hw hB hz1 hk1 hS => ?_)
                    refine ex_6_6 hB (fun x_6216 x_6217 x_6218 x_6219 x_6220 f_6221 b_x_6217 b_x_6220 e_x_6216_0 e_x_6216_1 e_x_6216_2 e_x_6216_3 hB => ?_)
                    obtain ⟨hP, hD⟩ := Bw.goN (ws' := [(oc7 oM iM_thrown rM_tape iM_taped iM_size x_6216 x_6217 x_6218 x_6219 x_6220 z_6211 z_6212 iM_trouble rM_letters z_6210 iM_hasCourt rM_r rM_fresh rM_told rM_read rM_st rM_undone rM_kept iM_undos iM_images rM_fresher x_6169 iM_scale iM_night rM_heardRow rM_cutRow iM_breaths iM_cutMany iM_allBreaths rM_trial rM_words iM_fewestBreaths iM_orderMany iM_orderSum iM_leastOrder rM_often iM_setMany iM_someOf iM_allOf iM_allWeight iM_enoughWeight iM_worthSum iM_firstRest iM_leastDrawn), (arI rM_tape kM_tape 900 fM_tape), (arI rM_letters kM_letters 8 f_6221), (arI rM_fresh kM_fresh 287 f_6184), (arI rM_read kM_read 90 f_6185), (arI rM_fresher kM_fresher 8 f_6171)]) hB rfl ht hP hD _ hMs hk1 hFc rfl
                    clear hz1 hk1 hvm ht hB hMs
                    have hG := hG.trans (un6_eq e_x_6216_3)
                    clear hi6_n_6186
                    clear hi8_n_6186
                    refine lv_iload_n hx hb dX7_innerLine_114 rfl (lv_at hl 6 rfl) ?_
                    refine lv_iconst (v := 3) hx hb dX7_innerLine_115 (by decide) ?_
                    refine lv_icmp_ne (tgt := 129) hx hb dX7_innerLine_116 (by decide) (fun c_6222 => ?_) (fun c_6222 => ?_)
                    · skip
                      have hG := hG.trans (if_neg c_6222)
                      have gc_6222 := ti_ne c_6222 rfl kc_3
                      replace gc_6222 : p0.toInt + (-2) ≤ 0 := om_b7ea5ffe gc_6222 hp0.2
                      clear hic
                      refine lv_iconst (v := 0) hx hb dX7_innerLine_129 (by decide) ?_
                      refine lv_istore (lv' := [(6, .int 0), (5, .int x_6208), (4, .int z_6174), (3, .int z_6173), (2, .int x_6172), (0, .ref oM), (1, .int p0)]) hx hb dX7_innerLine_130 hl (by decide) rfl (fun ls hl => ?_)
                      refine lv_aload_n hx hb dX7_innerLine_132 rfl (lv_at hl 5 rfl) ?_
                      refine va_get (D := (dC, dI)) (ci := 7) (v := .int z_6210) (C := RX7) (T := TX7) (N := 48) hx hb hts inX7 hown hK hP 0 rfl rfl 13 (by decide) (hts _ wd_380) (fun _ h9 => h9) rfl dX7_innerLine_133 ?_
                      refine lv_if_eq (tgt := 140) hx hb dX7_innerLine_136 (by decide) (fun c_6223 => ?_) (fun c_6223 => ?_)
                      · skip
                        have hG := hG.trans (if_pos c_6223)
                        have gc_6223 := ti_eq c_6223 rfl kc_0
                        exact ((om_77e4ddb5 gc_6215 gc_6223)).elim
                      · skip
                        have hG := hG.trans (if_neg c_6223)
                        have gc_6223 := ti_ne c_6223 rfl kc_0
                        replace gc_6223 : (-1) * z_6210.toInt + 1 ≤ 0 := om_e3003f79 gc_6223 b_z_6210.1
                        exact wq_v hx hb hr 0 trivial (fun t ht hW => ⟨x_6216, x_6217, x_6218, x_6219, x_6220, z_6211, z_6212, z_6210, x_6169, f_6221, f_6184, f_6185, f_6171, b_x_6217, b_x_6220, b_z_6210, (om_9348f5ae hi7_n_6186 e_x_6216_0), e_x_6216_1, (om_1fc3dec6 gc_6159 b_z_6210.1), (fun h9 => False.elim (om_a5fe015d gc_6215 h9.1)), hi2_n_6186, hG, Bw.to hP hD hK ht hW⟩) hS dX7_innerLine_139 hlocks
                    · skip
                      have hG := hG.trans (if_pos c_6222)
                      have gc_6222 := ti_eq c_6222 rfl kc_3
                      have h_6224 : (fM_fresh 8).toInt ≤ 1 := hic ⟨(om_02e9bb08 gc_6159), (om_ce492ef9 hp0.2 gc_6222)⟩
                      clear hic
                      refine lv_aload_n hx hb dX7_innerLine_119 rfl (lv_at hl 5 rfl) ?_
                      refine lv_iconst (v := 1) hx hb dX7_innerLine_120 (by decide) ?_
                      refine lv_bipush (v := 9) hx hb dX7_innerLine_121 (by decide) ?_
                      have hMs := ml_of hD [true, true, true, false, false, false] (wc := [(oc7 oM iM_thrown rM_tape iM_taped iM_size x_6216 x_6217 x_6218 x_6219 x_6220 z_6211 z_6212 iM_trouble rM_letters z_6210 iM_hasCourt rM_r rM_fresh rM_told rM_read rM_st rM_undone rM_kept iM_undos iM_images rM_fresher x_6169 iM_scale iM_night rM_heardRow rM_cutRow iM_breaths iM_cutMany iM_allBreaths rM_trial rM_words iM_fewestBreaths iM_orderMany iM_orderSum iM_leastOrder rM_often iM_setMany iM_someOf iM_allOf iM_allWeight iM_enoughWeight iM_worthSum iM_firstRest iM_leastDrawn), (arI rM_tape kM_tape 900 fM_tape), (arI rM_letters kM_letters 8 f_6221)]) rfl
                      have hFc := va_freeM hD hS hA _ hMs
                      refine va_calli (va_runV (As := [.int 1, .int 9]) (rest := []) ⟨hx, hb, hml, hown, hts⟩ (tX7_number l dC dI _ oM iM_thrown rM_tape fM_tape kM_tape iM_taped iM_size x_6216 x_6217 x_6218 x_6219 x_6220 z_6211 z_6212 iM_trouble rM_letters f_6221 kM_letters z_6210 iM_hasCourt rM_r rM_fresh rM_told rM_read rM_st rM_undone rM_kept iM_undos iM_images rM_fresher x_6169 iM_scale iM_night rM_heardRow rM_cutRow iM_breaths iM_cutMany iM_allBreaths rM_trial rM_words iM_fewestBreaths iM_orderMany iM_orderSum iM_leastOrder rM_often iM_setMany iM_someOf iM_allOf iM_allWeight iM_enoughWeight iM_worthSum iM_firstRest iM_leastDrawn 1 9 b_iM_taped b_iM_size b_x_6217 b_x_6220 b_z_6210 b_iM_hasCourt b_iM_undos b_iM_images b_iM_scale b_iM_breaths b_iM_cutMany e_x_6216_1 (om_dc317686 kc_1 kc_9)) (cwV 2 hts (wd_V wd_446 wd_447 wd_448 wd_5 (wd_c wd_449)) rfl rfl rfl dv_yX7_number_2 ⟨Nat.le_of_ble_eq_true rfl, Nat.le_of_ble_eq_true rfl⟩) ⟨Pw.fb, recvX7 hK hP (q0 := 0) rfl, fun U hU hW => Pw.to (hP.ms _ hMs) (hD.ms _ hMs) (hK.ms [true, true, false, false, false] rfl) hE hS hFc hU hW⟩ rfl rfl hl.1 rfl (lv_room (Nat.le_of_ble_eq_true rfl)) dX7_innerLine_123 ⟨Nat.le_of_ble_eq_true rfl, Nat.le_of_ble_eq_true rfl⟩) hS (fun q _ h => hFc q h) hFc (fun r u t H locs ht hvm hw hB hz1 hk1 hS => ?_)
                      have hru9 := hw.2
                      have hw := hw.1
                      refine ex_9_8 hB (fun x_6225 x_6226 x_6227 x_6228 x_6229 x_6230 x_6231 x_6232 f_6233 b_x_6226 b_x_6229 b_x_6232 e_x_6225_0 e_x_6225_1 e_x_6225_2 e_x_6225_3 e_x_6225_4 hB => ?_)
                      obtain ⟨hP, hD⟩ := Bw.goN (ws' := [(oc7 oM iM_thrown rM_tape iM_taped iM_size x_6225 x_6226 x_6227 x_6228 x_6229 x_6230 x_6231 iM_trouble rM_letters x_6232 iM_hasCourt rM_r rM_fresh rM_told rM_read rM_st rM_undone rM_kept iM_undos iM_images rM_fresher x_6169 iM_scale iM_night rM_heardRow rM_cutRow iM_breaths iM_cutMany iM_allBreaths rM_trial rM_words iM_fewestBreaths iM_orderMany iM_orderSum iM_leastOrder rM_often iM_setMany iM_someOf iM_allOf iM_allWeight iM_enoughWeight iM_worthSum iM_firstRest iM_leastDrawn), (arI rM_tape kM_tape 900 fM_tape), (arI rM_letters kM_letters 8 f_6233), (arI rM_fresh kM_fresh 287 f_6184), (arI rM_read kM_read 90 f_6185), (arI rM_fresher kM_fresher 8 f_6171)]) hB rfl ht hP hD _ hMs hk1 hFc rfl
                      clear hz1 hk1 hvm ht hB hMs
                      rw [← hru9] at e_x_6225_4
                      obtain ⟨x_6234, rfl⟩ : ∃ z, z = r := ⟨_, rfl⟩
                      have hG := hG.trans (un10_eq e_x_6225_4)
                      have lx_6234 := hw.2
                      have kl_1 := kc_1
                      have kl_9 := kc_9
                      clear e_x_6216_1
                      clear e_x_6216_2
                      refine lv_goto (tgt := 130) hx hb dX7_innerLine_126 (by decide) ?_
                      refine lv_istore (lv' := [(6, .int x_6234), (5, .int x_6208), (4, .int z_6174), (3, .int z_6173), (2, .int x_6172), (0, .ref oM), (1, .int p0)]) hx hb dX7_innerLine_130 hl (by decide) rfl (fun ls hl => ?_)
                      refine lv_aload_n hx hb dX7_innerLine_132 rfl (lv_at hl 5 rfl) ?_
                      refine va_get (D := (dC, dI)) (ci := 7) (v := .int x_6232) (C := RX7) (T := TX7) (N := 48) hx hb hts inX7 hown hK hP 0 rfl rfl 13 (by decide) (hts _ wd_380) (fun _ h9 => h9) rfl dX7_innerLine_133 ?_
                      refine lv_if_eq (tgt := 140) hx hb dX7_innerLine_136 (by decide) (fun c_6235 => ?_) (fun c_6235 => ?_)
                      · skip
                        have hG := hG.trans (if_pos c_6235)
                        have gc_6235 := ti_eq c_6235 rfl kc_0
                        exact ((om_30d40e72 gc_6215 e_x_6225_2 gc_6235)).elim
                      · skip
                        have hG := hG.trans (if_neg c_6235)
                        have gc_6235 := ti_ne c_6235 rfl kc_0
                        replace gc_6235 : (-1) * x_6232.toInt + 1 ≤ 0 := om_e3003f79 gc_6235 b_x_6232.1
                        exact wq_v hx hb hr 0 trivial (fun t ht hW => ⟨x_6225, x_6226, x_6227, x_6228, x_6229, x_6230, x_6231, x_6232, x_6169, f_6233, f_6184, f_6185, f_6171, b_x_6226, b_x_6229, b_x_6232, (om_622f2a87 hi7_n_6186 e_x_6216_0 e_x_6225_0), e_x_6225_1, (om_1fc3dec6 gc_6159 b_x_6232.1), (fun h9 => False.elim (om_a5fe015d gc_6235 h9.1)), hi2_n_6186, hG, Bw.to hP hD hK ht hW⟩) hS dX7_innerLine_139 hlocks
                  · skip
                    have hG := hG.trans (if_pos c_6215)
                    have gc_6215 := ti_eq c_6215 rfl kc_0
                    have h_6236 : 1 ≤ (f_6184 1).toInt := e_x_6205_1 (om_6c480895 hi1_n_6213 gc_6215)
                    clear e_x_6205_1
                    have h_6237 : x_6208.toInt < (f_6184 1).toInt := lx_6208.2.1 h_6236
                    refine lv_iload_n hx hb dX7_innerLine_96 rfl (lv_at hl 3 rfl) ?_
                    refine lv_iconst (v := 4) hx hb dX7_innerLine_97 (by decide) ?_
                    refine lv_icmp_ne (tgt := 110) hx hb dX7_innerLine_98 (by decide) (fun c_6238 => ?_) (fun c_6238 => ?_)
                    · skip
                      have hG := hG.trans (if_neg c_6238)
                      have gc_6238 := ti_ne c_6238 rfl kc_4
                      replace gc_6238 : z_6173.toInt + (-3) ≤ 0 := om_96839482 gc_6238 hi0_n_6186.2
                      refine lv_aload_n hx hb dX7_innerLine_110 rfl (lv_at hl 5 rfl) ?_
                      have hMs := ml_of hD [true, true, true, false, false, false] (wc := [(oc7 oM iM_thrown rM_tape iM_taped iM_size z_6175 z_6176 z_6177 z_6178 z_6179 z_6211 z_6212 iM_trouble rM_letters z_6210 iM_hasCourt rM_r rM_fresh rM_told rM_read rM_st rM_undone rM_kept iM_undos iM_images rM_fresher x_6169 iM_scale iM_night rM_heardRow rM_cutRow iM_breaths iM_cutMany iM_allBreaths rM_trial rM_words iM_fewestBreaths iM_orderMany iM_orderSum iM_leastOrder rM_often iM_setMany iM_someOf iM_allOf iM_allWeight iM_enoughWeight iM_worthSum iM_firstRest iM_leastDrawn), (arI rM_tape kM_tape 900 fM_tape), (arI rM_letters kM_letters 8 f_6183)]) rfl
                      have hFc := va_freeM hD hS hA _ hMs
                      refine va_callv (va_runV (As := []) (rest := []) ⟨hx, hb, hml, hown, hts⟩ (tX7_pass l dC dI _ oM iM_thrown rM_tape fM_tape kM_tape iM_taped iM_size z_6175 z_6176 z_6177 z_6178 z_6179 z_6211 z_6212 iM_trouble rM_letters f_6183 kM_letters z_6210 iM_hasCourt rM_r rM_fresh rM_told rM_read rM_st rM_undone rM_kept iM_undos iM_images rM_fresher x_6169 iM_scale iM_night rM_heardRow rM_cutRow iM_breaths iM_cutMany iM_allBreaths rM_trial rM_words iM_fewestBreaths iM_orderMany iM_orderSum iM_leastOrder rM_often iM_setMany iM_someOf iM_allOf iM_allWeight iM_enoughWeight iM_worthSum iM_firstRest iM_leastDrawn b_iM_taped b_iM_size b_z_6176 b_z_6179 b_z_6210 b_iM_hasCourt b_iM_undos b_iM_images b_iM_scale b_iM_breaths b_iM_cutMany hi6_n_6186) (cwV 0 hts (wd_V wd_454 wd_455 wd_456 wd_5 (wd_c wd_457)) rfl rfl rfl dv_yX7_pass_0 ⟨Nat.le_of_ble_eq_true rfl, Nat.le_of_ble_eq_true rfl⟩) ⟨Pw.fb, recvX7 hK hP (q0 := 0) rfl, fun U hU hW => Pw.to (hP.ms _ hMs) (hD.ms _ hMs) (hK.ms [true, true, false, false, false] rfl) hE hS hFc hU hW⟩ rfl rfl hl.1 rfl (lv_room (Nat.le_of_ble_eq_true rfl)) dX7_innerLine_111 ⟨Nat.le_of_ble_eq_true rfl, Nat.le_of_ble_eq_true rfl⟩) hS (fun q _ h => hFc q h) hFc (fun u t H locs ht hvm hw hB hz1 hk1 hS => ?_)
                      refine ex_6_6 hB (fun x_6239 x_6240 x_6241 x_6242 x_6243 f_6244 b_x_6240 b_x_6243 e_x_6239_0 e_x_6239_1 e_x_6239_2 e_x_6239_3 hB => ?_)
                      obtain ⟨hP, hD⟩ := Bw.goN (ws' := [(oc7 oM iM_thrown rM_tape iM_taped iM_size x_6239 x_6240 x_6241 x_6242 x_6243 z_6211 z_6212 iM_trouble rM_letters z_6210 iM_hasCourt rM_r rM_fresh rM_told rM_read rM_st rM_undone rM_kept iM_undos iM_images rM_fresher x_6169 iM_scale iM_night rM_heardRow rM_cutRow iM_breaths iM_cutMany iM_allBreaths rM_trial rM_words iM_fewestBreaths iM_orderMany iM_orderSum iM_leastOrder rM_often iM_setMany iM_someOf iM_allOf iM_allWeight iM_enoughWeight iM_worthSum iM_firstRest iM_leastDrawn), (arI rM_tape kM_tape 900 fM_tape), (arI rM_letters kM_letters 8 f_6244), (arI rM_fresh kM_fresh 287 f_6184), (arI rM_read kM_read 90 f_6185), (arI rM_fresher kM_fresher 8 f_6171)]) hB rfl ht hP hD _ hMs hk1 hFc rfl
                      clear hz1 hk1 hvm ht hB hMs
                      have hG := hG.trans (un6_eq e_x_6239_3)
                      clear hi6_n_6186
                      clear hi8_n_6186
                      refine lv_iload_n hx hb dX7_innerLine_114 rfl (lv_at hl 6 rfl) ?_
                      refine lv_iconst (v := 3) hx hb dX7_innerLine_115 (by decide) ?_
                      refine lv_icmp_ne (tgt := 129) hx hb dX7_innerLine_116 (by decide) (fun c_6245 => ?_) (fun c_6245 => ?_)
                      · skip
                        have hG := hG.trans (if_neg c_6245)
                        have gc_6245 := ti_ne c_6245 rfl kc_3
                        replace gc_6245 : p0.toInt + (-2) ≤ 0 := om_b7ea5ffe gc_6245 hp0.2
                        clear hic
                        refine lv_iconst (v := 0) hx hb dX7_innerLine_129 (by decide) ?_
                        refine lv_istore (lv' := [(6, .int 0), (5, .int x_6208), (4, .int z_6174), (3, .int z_6173), (2, .int x_6172), (0, .ref oM), (1, .int p0)]) hx hb dX7_innerLine_130 hl (by decide) rfl (fun ls hl => ?_)
                        refine lv_aload_n hx hb dX7_innerLine_132 rfl (lv_at hl 5 rfl) ?_
                        refine va_get (D := (dC, dI)) (ci := 7) (v := .int z_6210) (C := RX7) (T := TX7) (N := 48) hx hb hts inX7 hown hK hP 0 rfl rfl 13 (by decide) (hts _ wd_380) (fun _ h9 => h9) rfl dX7_innerLine_133 ?_
                        refine lv_if_eq (tgt := 140) hx hb dX7_innerLine_136 (by decide) (fun c_6246 => ?_) (fun c_6246 => ?_)
                        · skip
                          have hG := hG.trans (if_pos c_6246)
                          have gc_6246 := ti_eq c_6246 rfl kc_0
                          refine lv_aload_n hx hb dX7_innerLine_140 rfl (lv_at hl 5 rfl) ?_
                          refine va_get (D := (dC, dI)) (ci := 7) (v := .ref rM_read) (C := RX7) (T := TX7) (N := 48) hx hb hts inX7 hown hK hP 0 rfl rfl 18 (by decide) (hts _ wd_158) (fun _ h9 => h9) rfl dX7_innerLine_141 ?_
                          refine lv_iconst (v := 4) hx hb dX7_innerLine_144 (by decide) ?_
                          refine lv_iload_n hx hb dX7_innerLine_145 rfl (lv_at hl 4 rfl) ?_
                          refine lv_imul hx hb dX7_innerLine_146 ?_
                          refine lv_topi (fun x_6247 ex_6247 => ?_)
                          have hG := hG.trans (lt_eq ex_6247)
                          have vx_6247 : x_6247.toInt = 4 * x_6172.toInt := ti_mul ex_6247 kc_4 rfl (om_9e6bb6a4 pl_fM_fresh.2.2.2.2.1.1 pl_fM_fresh.2.2.2.2.1.2 cx_6172) (om_7d3cae7d pl_fM_fresh.2.1 pl_fM_fresh.2.2.1.2 pl_fM_fresh.2.2.2.2.2.1.2 cx_6172)
                          refine lv_iload_n hx hb dX7_innerLine_147 rfl (lv_at hl 3 rfl) ?_
                          refine lv_iadd hx hb dX7_innerLine_148 ?_
                          refine lv_topi (fun x_6248 ex_6248 => ?_)
                          have hG := hG.trans (lt_eq ex_6248)
                          have vx_6248 : x_6248.toInt = 4 * x_6172.toInt + z_6173.toInt := om_5d0caf0f (ti_add ex_6248 vx_6247 rfl (om_80a5d224 pl_fM_fresh.2.2.2.2.1.1 pl_fM_fresh.2.2.2.2.1.2 cx_6172 hi0_n_6186.1) (om_65488096 pl_fM_fresh.2.1 pl_fM_fresh.2.2.1.2 pl_fM_fresh.2.2.2.2.2.1.2 cx_6172 hi0_n_6186.2))
                          refine lv_iload hx hb dX7_innerLine_149 (lv_at hl 1 rfl) ?_
                          refine va_iast hx hb hK hP hD hS 4 3 rfl rfl (ti_in vx_6248 (om_dcc527d7 pl_fM_fresh.2.2.2.2.1.1 pl_fM_fresh.2.2.2.2.1.2 cx_6172 hi0_n_6186.1) (om_1343fdf1 pl_fM_fresh.2.1 pl_fM_fresh.2.2.1.2 pl_fM_fresh.2.2.2.2.2.1.2 cx_6172 hi0_n_6186.2)) dX7_innerLine_151 (fun H locs hP hD hS => ?_)
                          obtain ⟨f_6249, ef_6249⟩ : ∃ g : Nat → Int32, g = upd f_6185 x_6248.toNatClampNeg x_6208 := ⟨_, rfl⟩
                          rw [← ef_6249] at hP hD
                          have hG := hG.trans (lt_eq ef_6249)
                          obtain ⟨hP, hD⟩ := wl2 (ws' := [(oc7 oM iM_thrown rM_tape iM_taped iM_size x_6239 x_6240 x_6241 x_6242 x_6243 z_6211 z_6212 iM_trouble rM_letters z_6210 iM_hasCourt rM_r rM_fresh rM_told rM_read rM_st rM_undone rM_kept iM_undos iM_images rM_fresher x_6169 iM_scale iM_night rM_heardRow rM_cutRow iM_breaths iM_cutMany iM_allBreaths rM_trial rM_words iM_fewestBreaths iM_orderMany iM_orderSum iM_leastOrder rM_often iM_setMany iM_someOf iM_allOf iM_allWeight iM_enoughWeight iM_worthSum iM_firstRest iM_leastDrawn), (arI rM_tape kM_tape 900 fM_tape), (arI rM_letters kM_letters 8 f_6244), (arI rM_fresh kM_fresh 287 f_6184), (arI rM_read kM_read 90 f_6249), (arI rM_fresher kM_fresher 8 f_6171)]) hP hD rfl
                          have q_n1 := ti_cl (x := f_6184 1) rfl (by omega)
                          have pk_f_6249 : POk f_6184 f_6249 := POk.prt hi2_n_6186 ef_6249 (by have q9 := ti_cl (x := x_6248) vx_6248 (om_dcc527d7 pl_fM_fresh.2.2.2.2.1.1 pl_fM_fresh.2.2.2.2.1.2 cx_6172 hi0_n_6186.1); omega) (by have q9 := ti_cl (x := x_6248) vx_6248 (om_dcc527d7 pl_fM_fresh.2.2.2.2.1.1 pl_fM_fresh.2.2.2.2.1.2 cx_6172 hi0_n_6186.1); omega)
                          refine lv_aload_n hx hb dX7_innerLine_152 rfl (lv_at hl 5 rfl) ?_
                          refine va_get (D := (dC, dI)) (ci := 7) (v := .ref rM_fresh) (C := RX7) (T := TX7) (N := 48) hx hb hts inX7 hown hK hP 0 rfl rfl 16 (by decide) (hts _ wd_156) (fun _ h9 => h9) rfl dX7_innerLine_153 ?_
                          refine lv_bipush (v := 45) hx hb dX7_innerLine_156 (by decide) ?_
                          refine lv_iconst (v := 4) hx hb dX7_innerLine_158 (by decide) ?_
                          refine lv_iload_n hx hb dX7_innerLine_159 rfl (lv_at hl 4 rfl) ?_
                          refine lv_imul hx hb dX7_innerLine_160 ?_
                          refine lv_topi (fun x_6250 ex_6250 => ?_)
                          have hG := hG.trans (lt_eq ex_6250)
                          have vx_6250 : x_6250.toInt = 4 * x_6172.toInt := ti_mul ex_6250 kc_4 rfl (om_9e6bb6a4 pl_fM_fresh.2.2.2.2.1.1 pl_fM_fresh.2.2.2.2.1.2 cx_6172) (om_7d3cae7d pl_fM_fresh.2.1 pl_fM_fresh.2.2.1.2 pl_fM_fresh.2.2.2.2.2.1.2 cx_6172)
                          refine lv_iadd hx hb dX7_innerLine_161 ?_
                          refine lv_topi (fun x_6251 ex_6251 => ?_)
                          have hG := hG.trans (lt_eq ex_6251)
                          have vx_6251 : x_6251.toInt = 4 * x_6172.toInt + 45 := om_702bf7ac (ti_add ex_6251 kc_45 vx_6250 (om_0c5ad906 pl_fM_fresh.2.2.2.2.1.1 pl_fM_fresh.2.2.2.2.1.2 cx_6172) (om_5da1924c pl_fM_fresh.2.1 pl_fM_fresh.2.2.1.2 pl_fM_fresh.2.2.2.2.2.1.2 cx_6172))
                          refine lv_iload_n hx hb dX7_innerLine_162 rfl (lv_at hl 3 rfl) ?_
                          refine lv_iadd hx hb dX7_innerLine_163 ?_
                          refine lv_topi (fun x_6252 ex_6252 => ?_)
                          have hG := hG.trans (lt_eq ex_6252)
                          have vx_6252 : x_6252.toInt = 4 * x_6172.toInt + z_6173.toInt + 45 := om_0ab12ad6 (ti_add ex_6252 vx_6251 rfl (om_563b8554 pl_fM_fresh.2.2.2.2.1.1 pl_fM_fresh.2.2.2.2.1.2 cx_6172 hi0_n_6186.1) (om_87f6ba8c pl_fM_fresh.2.1 pl_fM_fresh.2.2.1.2 pl_fM_fresh.2.2.2.2.2.1.2 cx_6172 hi0_n_6186.2))
                          refine lv_iload hx hb dX7_innerLine_164 (lv_at hl 0 rfl) ?_
                          refine va_iast hx hb hK hP hD hS 3 2 rfl rfl (ti_in vx_6252 (om_d2c9edc5 pl_fM_fresh.2.2.2.2.1.1 pl_fM_fresh.2.2.2.2.1.2 cx_6172 hi0_n_6186.1) (om_21e450b4 pl_fM_fresh.2.1 pl_fM_fresh.2.2.1.2 pl_fM_fresh.2.2.2.2.2.1.2 cx_6172 hi0_n_6186.2)) dX7_innerLine_166 (fun H locs hP hD hS => ?_)
                          obtain ⟨f_6253, ef_6253⟩ : ∃ g : Nat → Int32, g = upd f_6184 x_6252.toNatClampNeg (0 : Int32) := ⟨_, rfl⟩
                          rw [← ef_6253] at hP hD
                          have hG := hG.trans (lt_eq ef_6253)
                          obtain ⟨hP, hD⟩ := wl2 (ws' := [(oc7 oM iM_thrown rM_tape iM_taped iM_size x_6239 x_6240 x_6241 x_6242 x_6243 z_6211 z_6212 iM_trouble rM_letters z_6210 iM_hasCourt rM_r rM_fresh rM_told rM_read rM_st rM_undone rM_kept iM_undos iM_images rM_fresher x_6169 iM_scale iM_night rM_heardRow rM_cutRow iM_breaths iM_cutMany iM_allBreaths rM_trial rM_words iM_fewestBreaths iM_orderMany iM_orderSum iM_leastOrder rM_often iM_setMany iM_someOf iM_allOf iM_allWeight iM_enoughWeight iM_worthSum iM_firstRest iM_leastDrawn), (arI rM_tape kM_tape 900 fM_tape), (arI rM_letters kM_letters 8 f_6244), (arI rM_fresh kM_fresh 287 f_6253), (arI rM_read kM_read 90 f_6249), (arI rM_fresher kM_fresher 8 f_6171)]) hP hD rfl
                          have pk_f_6253 : POk f_6253 f_6249 := POk.put pk_f_6249 ef_6253 (Or.inr (Or.inr (Or.inr (Or.inr (Or.inr (Or.inl (by have q9 := ti_cl (x := x_6252) vx_6252 (om_d2c9edc5 pl_fM_fresh.2.2.2.2.1.1 pl_fM_fresh.2.2.2.2.1.2 cx_6172 hi0_n_6186.1); have q8 := kc_0; omega)))))))
                          have pl_f_6253 := pk_f_6253.lins
                          have nn9 : (f_6184 1).toNatClampNeg = x_6172.toNatClampNeg := by have q1 := ti_cl (x := x_6172) rfl (om_1ab2c227 pl_fM_fresh.2.2.2.2.1.1 pl_fM_fresh.2.2.2.2.1.2 cx_6172); have q2 := ti_cl (x := f_6184 1) rfl (by omega); have q3 := ti_cl (x := z_6173) rfl hi0_n_6186.1; omega
                          have in9 : InOk f_6253 f_6249 (f_6253 1).toNatClampNeg (z_6173.toNatClampNeg + 1) p0.toInt := in_step hi3_n_6186 rfl ef_6249 (by have q1 := ti_cl (x := x_6172) rfl (om_1ab2c227 pl_fM_fresh.2.2.2.2.1.1 pl_fM_fresh.2.2.2.2.1.2 cx_6172); have q2 := ti_cl (x := f_6184 1) rfl (by omega); have q3 := ti_cl (x := z_6173) rfl hi0_n_6186.1; have q9 := ti_cl (x := x_6248) vx_6248 (om_dcc527d7 pl_fM_fresh.2.2.2.2.1.1 pl_fM_fresh.2.2.2.2.1.2 cx_6172 hi0_n_6186.1); omega) ef_6253 (by have q1 := ti_cl (x := x_6172) rfl (om_1ab2c227 pl_fM_fresh.2.2.2.2.1.1 pl_fM_fresh.2.2.2.2.1.2 cx_6172); have q2 := ti_cl (x := f_6184 1) rfl (by omega); have q3 := ti_cl (x := z_6173) rfl hi0_n_6186.1; have q9 := ti_cl (x := x_6252) vx_6252 (om_d2c9edc5 pl_fM_fresh.2.2.2.2.1.1 pl_fM_fresh.2.2.2.2.1.2 cx_6172 hi0_n_6186.1); omega) (by omega) (by have q1 := ti_cl (x := x_6172) rfl (om_1ab2c227 pl_fM_fresh.2.2.2.2.1.1 pl_fM_fresh.2.2.2.2.1.2 cx_6172); have q2 := ti_cl (x := f_6184 1) rfl (by omega); have q3 := ti_cl (x := z_6173) rfl hi0_n_6186.1; omega) (fun i9 h9 => by rw [nn9]; exact hi2_n_6213 (by omega) i9 (by have q1 := ti_cl (x := x_6172) rfl (om_1ab2c227 pl_fM_fresh.2.2.2.2.1.1 pl_fM_fresh.2.2.2.2.1.2 cx_6172); have q2 := ti_cl (x := f_6184 1) rfl (by omega); have q3 := ti_cl (x := z_6173) rfl hi0_n_6186.1; have q4 := ti_cl (x := z_6209) rfl hi0_n_6213.1; omega)) (fun h9 => by have q0 := kc_0; omega) rfl
                          have o1_f_6253 : (f_6253 1).toInt = (f_6184 1).toInt := put_at ef_6253 (Nat.ne_of_lt (om_9b872883 (ti_cl (x := x_6252) vx_6252 (om_d2c9edc5 pl_fM_fresh.2.2.2.2.1.1 pl_fM_fresh.2.2.2.2.1.2 cx_6172 hi0_n_6186.1)) pl_fM_fresh.2.2.2.2.1.1 pl_fM_fresh.2.2.2.2.1.2 cx_6172 hi0_n_6186.1))
                          have o7_f_6253 : (f_6253 7).toInt = (f_6184 7).toInt := put_at ef_6253 (Nat.ne_of_lt (om_58da8a1c (ti_cl (x := x_6252) vx_6252 (om_d2c9edc5 pl_fM_fresh.2.2.2.2.1.1 pl_fM_fresh.2.2.2.2.1.2 cx_6172 hi0_n_6186.1)) pl_fM_fresh.2.2.2.2.1.1 pl_fM_fresh.2.2.2.2.1.2 cx_6172 hi0_n_6186.1))
                          have o8_f_6253 : (f_6253 8).toInt = (f_6184 8).toInt := put_at ef_6253 (Nat.ne_of_lt (om_f4400bad (ti_cl (x := x_6252) vx_6252 (om_d2c9edc5 pl_fM_fresh.2.2.2.2.1.1 pl_fM_fresh.2.2.2.2.1.2 cx_6172 hi0_n_6186.1)) pl_fM_fresh.2.2.2.2.1.1 pl_fM_fresh.2.2.2.2.1.2 cx_6172 hi0_n_6186.1))
                          obtain ⟨x_6254, ex_6254⟩ : ∃ z : Int32, z = z_6173 + Int32.ofInt 1 := ⟨_, rfl⟩
                          have hG := hG.trans (lt_eq ex_6254)
                          have vx_6254 : x_6254.toInt = z_6173.toInt + 1 := ti_add (y := 1) ex_6254 rfl kc_1 (om_4e4fce7e hi0_n_6186.1) (om_bae2951a hi0_n_6186.2)
                          refine lv_iinc (v := x_6254) (lv' := [(3, .int x_6254), (6, .int 0), (5, .int x_6208), (4, .int z_6174), (2, .int x_6172), (0, .ref oM), (1, .int p0)]) hx hb dX7_innerLine_167 hl (k := 3) rfl ex_6254.symm (by decide) rfl (fun ls hl => ?_)
                          refine lv_aload_n hx hb dX7_innerLine_170 rfl (lv_at hl 5 rfl) ?_
                          refine va_get (D := (dC, dI)) (ci := 7) (v := .int x_6241) (C := RX7) (T := TX7) (N := 48) hx hb hts inX7 hown hK hP 0 rfl rfl 6 (by decide) (hts _ wd_383) (fun _ h9 => h9) rfl dX7_innerLine_171 ?_
                          refine lv_bipush (v := 44) hx hb dX7_innerLine_174 (by decide) ?_
                          refine lv_icmp_ne (tgt := 183) hx hb dX7_innerLine_176 (by decide) (fun c_6255 => ?_) (fun c_6255 => ?_)
                          · skip
                            have hG := hG.trans (if_neg c_6255)
                            have gc_6255 := ti_ne c_6255 rfl kc_44
                            clear gc_6255
                            refine lv_iconst (v := 0) hx hb dX7_innerLine_183 (by decide) ?_
                            refine lv_istore (lv' := [(4, .int 0), (3, .int x_6254), (6, .int 0), (5, .int x_6208), (2, .int x_6172), (0, .ref oM), (1, .int p0)]) hx hb dX7_innerLine_184 hl (by decide) rfl (fun ls hl => ?_)
                            refine lv_iload hx hb dX7_innerLine_186 (lv_at hl 0 rfl) ?_
                            refine lv_if_eq (tgt := 195) hx hb dX7_innerLine_188 (by decide) (fun _ => ?_) (fun c => absurd c (by decide))
                            refine lv_goto (tgt := 24) hx hb dX7_innerLine_195 (by decide) ?_
                            exact ih_n_6186 x_6254 0 x_6239 x_6240 x_6241 x_6242 x_6243 z_6211 z_6212 z_6210 f_6244 f_6253 f_6249 _ _ _ b_x_6240 b_x_6243 b_z_6210 ⟨(om_83b90de5 hi0_n_6186.1 vx_6254), (om_2c69d3de gc_6238 vx_6254)⟩ ⟨(om_b1de7dbe kc_0), (om_270f4ea0 kc_0)⟩ (by assumption) (by rw [show x_6254.toNatClampNeg = z_6173.toNatClampNeg + 1 from (by have q1 := ti_cl (x := x_6254) vx_6254 (om_9548a8fd hi0_n_6186.1); have q2 := ti_cl (x := z_6173) rfl hi0_n_6186.1; omega)]; exact in9) ⟨(om_216d7917 hi4_n_6186.1 o1_f_6253), (om_216d7917 hi4_n_6186.2.1 o7_f_6253), (om_216d7917 hi4_n_6186.2.2 o8_f_6253)⟩ (fun h9 => (om_285f573d hi0_n_6186.1 vx_6254)) e_x_6239_1 (om_9348f5ae hi7_n_6186 e_x_6239_0) (fun h9 => (om_7ed234da hi7_n_6186 (e_x_6239_2 ⟨(om_02e9bb08 gc_6215), h9.2⟩))) (ms_lt hm_n_6186 (om_ed22490e vx_6254) (om_36ac28fa gc_6238)) hG hP hD hS (lv_sub hl [0, 1, 4, 5, 6] rfl)
                          · skip
                            have hG := hG.trans (if_pos c_6255)
                            have gc_6255 := ti_eq c_6255 rfl kc_44
                            refine lv_iconst (v := 1) hx hb dX7_innerLine_179 (by decide) ?_
                            refine lv_goto (tgt := 184) hx hb dX7_innerLine_180 (by decide) ?_
                            refine lv_istore (lv' := [(4, .int 1), (3, .int x_6254), (6, .int 0), (5, .int x_6208), (2, .int x_6172), (0, .ref oM), (1, .int p0)]) hx hb dX7_innerLine_184 hl (by decide) rfl (fun ls hl => ?_)
                            refine lv_iload hx hb dX7_innerLine_186 (lv_at hl 0 rfl) ?_
                            refine lv_if_eq (tgt := 195) hx hb dX7_innerLine_188 (by decide) (fun c => absurd c (by decide)) (fun _ => ?_)
                            refine lv_aload_n hx hb dX7_innerLine_191 rfl (lv_at hl 5 rfl) ?_
                            have hMs := ml_of hD [true, true, true, false, false, false] (wc := [(oc7 oM iM_thrown rM_tape iM_taped iM_size x_6239 x_6240 x_6241 x_6242 x_6243 z_6211 z_6212 iM_trouble rM_letters z_6210 iM_hasCourt rM_r rM_fresh rM_told rM_read rM_st rM_undone rM_kept iM_undos iM_images rM_fresher x_6169 iM_scale iM_night rM_heardRow rM_cutRow iM_breaths iM_cutMany iM_allBreaths rM_trial rM_words iM_fewestBreaths iM_orderMany iM_orderSum iM_leastOrder rM_often iM_setMany iM_someOf iM_allOf iM_allWeight iM_enoughWeight iM_worthSum iM_firstRest iM_leastDrawn), (arI rM_tape kM_tape 900 fM_tape), (arI rM_letters kM_letters 8 f_6244)]) rfl
                            have hFc := va_freeM hD hS hA _ hMs
                            refine va_callv (va_runV (As := []) (rest := []) ⟨hx, hb, hml, hown, hts⟩ (tX7_next l dC dI _ oM iM_thrown rM_tape fM_tape kM_tape iM_taped iM_size x_6239 x_6240 x_6241 x_6242 x_6243 z_6211 z_6212 iM_trouble rM_letters f_6244 kM_letters z_6210 iM_hasCourt rM_r rM_fresh rM_told rM_read rM_st rM_undone rM_kept iM_undos iM_images rM_fresher x_6169 iM_scale iM_night rM_heardRow rM_cutRow iM_breaths iM_cutMany iM_allBreaths rM_trial rM_words iM_fewestBreaths iM_orderMany iM_orderSum iM_leastOrder rM_often iM_setMany iM_someOf iM_allOf iM_allWeight iM_enoughWeight iM_worthSum iM_firstRest iM_leastDrawn b_iM_taped b_iM_size b_x_6240 b_x_6243 b_z_6210 b_iM_hasCourt b_iM_undos b_iM_images b_iM_scale b_iM_breaths b_iM_cutMany e_x_6239_1) (cwV 0 hts (wd_V wd_400 wd_401 wd_402 wd_5 (wd_c wd_403)) rfl rfl rfl dv_yX7_next_0 ⟨Nat.le_of_ble_eq_true rfl, Nat.le_of_ble_eq_true rfl⟩) ⟨Pw.fb, recvX7 hK hP (q0 := 0) rfl, fun U hU hW => Pw.to (hP.ms _ hMs) (hD.ms _ hMs) (hK.ms [true, true, false, false, false] rfl) hE hS hFc hU hW⟩ rfl rfl hl.1 rfl (lv_room (Nat.le_of_ble_eq_true rfl)) dX7_innerLine_192 ⟨Nat.le_of_ble_eq_true rfl, Nat.le_of_ble_eq_true rfl⟩) hS (fun q _ h => hFc q h) hFc (fun u t H locs ht hvm hw hB hz1 hk1 hS => ?_)
                            refine ex_6_6 hB (fun x_6258 x_6259 x_6260 x_6261 x_6262 f_6263 b_x_6259 b_x_6262 e_x_6258_0 e_x_6258_1 e_x_6258_2 e_x_6258_3 hB => ?_)
                            obtain ⟨hP, hD⟩ := Bw.goN (ws' := [(oc7 oM iM_thrown rM_tape iM_taped iM_size x_6258 x_6259 x_6260 x_6261 x_6262 z_6211 z_6212 iM_trouble rM_letters z_6210 iM_hasCourt rM_r rM_fresh rM_told rM_read rM_st rM_undone rM_kept iM_undos iM_images rM_fresher x_6169 iM_scale iM_night rM_heardRow rM_cutRow iM_breaths iM_cutMany iM_allBreaths rM_trial rM_words iM_fewestBreaths iM_orderMany iM_orderSum iM_leastOrder rM_often iM_setMany iM_someOf iM_allOf iM_allWeight iM_enoughWeight iM_worthSum iM_firstRest iM_leastDrawn), (arI rM_tape kM_tape 900 fM_tape), (arI rM_letters kM_letters 8 f_6263), (arI rM_fresh kM_fresh 287 f_6253), (arI rM_read kM_read 90 f_6249), (arI rM_fresher kM_fresher 8 f_6171)]) hB rfl ht hP hD _ hMs hk1 hFc rfl
                            clear hz1 hk1 hvm ht hB hMs
                            have hG := hG.trans (un6_eq e_x_6258_3)
                            clear e_x_6239_1
                            clear e_x_6239_2
                            refine lv_goto (tgt := 24) hx hb dX7_innerLine_195 (by decide) ?_
                            exact ih_n_6186 x_6254 1 x_6258 x_6259 x_6260 x_6261 x_6262 z_6211 z_6212 z_6210 f_6263 f_6253 f_6249 _ _ _ b_x_6259 b_x_6262 b_z_6210 ⟨(om_83b90de5 hi0_n_6186.1 vx_6254), (om_2c69d3de gc_6238 vx_6254)⟩ ⟨(om_1b364b1c kc_1), (om_02032f93 kc_1)⟩ (by assumption) (by rw [show x_6254.toNatClampNeg = z_6173.toNatClampNeg + 1 from (by have q1 := ti_cl (x := x_6254) vx_6254 (om_9548a8fd hi0_n_6186.1); have q2 := ti_cl (x := z_6173) rfl hi0_n_6186.1; omega)]; exact in9) ⟨(om_216d7917 hi4_n_6186.1 o1_f_6253), (om_216d7917 hi4_n_6186.2.1 o7_f_6253), (om_216d7917 hi4_n_6186.2.2 o8_f_6253)⟩ (fun h9 => (om_285f573d hi0_n_6186.1 vx_6254)) e_x_6258_1 (om_622f2a87 hi7_n_6186 e_x_6239_0 e_x_6258_0) (fun h9 => (om_2d38588c hi7_n_6186 e_x_6239_0 (e_x_6258_2 h9.2))) (ms_lt hm_n_6186 (om_ed22490e vx_6254) (om_36ac28fa gc_6238)) hG hP hD hS (lv_sub hl [0, 1, 4, 5, 6] rfl)
                        · skip
                          have hG := hG.trans (if_neg c_6246)
                          have gc_6246 := ti_ne c_6246 rfl kc_0
                          replace gc_6246 : z_6210.toInt + 1 ≤ 0 := om_f992525b gc_6246 gc_6215
                          exact ((om_5185113d b_z_6210.1 gc_6246)).elim
                      · skip
                        have hG := hG.trans (if_pos c_6245)
                        have gc_6245 := ti_eq c_6245 rfl kc_3
                        have h_6264 : (fM_fresh 8).toInt ≤ 1 := hic ⟨(om_02e9bb08 gc_6159), (om_ce492ef9 hp0.2 gc_6245)⟩
                        clear hic
                        refine lv_aload_n hx hb dX7_innerLine_119 rfl (lv_at hl 5 rfl) ?_
                        refine lv_iconst (v := 1) hx hb dX7_innerLine_120 (by decide) ?_
                        refine lv_bipush (v := 9) hx hb dX7_innerLine_121 (by decide) ?_
                        have hMs := ml_of hD [true, true, true, false, false, false] (wc := [(oc7 oM iM_thrown rM_tape iM_taped iM_size x_6239 x_6240 x_6241 x_6242 x_6243 z_6211 z_6212 iM_trouble rM_letters z_6210 iM_hasCourt rM_r rM_fresh rM_told rM_read rM_st rM_undone rM_kept iM_undos iM_images rM_fresher x_6169 iM_scale iM_night rM_heardRow rM_cutRow iM_breaths iM_cutMany iM_allBreaths rM_trial rM_words iM_fewestBreaths iM_orderMany iM_orderSum iM_leastOrder rM_often iM_setMany iM_someOf iM_allOf iM_allWeight iM_enoughWeight iM_worthSum iM_firstRest iM_leastDrawn), (arI rM_tape kM_tape 900 fM_tape), (arI rM_letters kM_letters 8 f_6244)]) rfl
                        have hFc := va_freeM hD hS hA _ hMs
                        refine va_calli (va_runV (As := [.int 1, .int 9]) (rest := []) ⟨hx, hb, hml, hown, hts⟩ (tX7_number l dC dI _ oM iM_thrown rM_tape fM_tape kM_tape iM_taped iM_size x_6239 x_6240 x_6241 x_6242 x_6243 z_6211 z_6212 iM_trouble rM_letters f_6244 kM_letters z_6210 iM_hasCourt rM_r rM_fresh rM_told rM_read rM_st rM_undone rM_kept iM_undos iM_images rM_fresher x_6169 iM_scale iM_night rM_heardRow rM_cutRow iM_breaths iM_cutMany iM_allBreaths rM_trial rM_words iM_fewestBreaths iM_orderMany iM_orderSum iM_leastOrder rM_often iM_setMany iM_someOf iM_allOf iM_allWeight iM_enoughWeight iM_worthSum iM_firstRest iM_leastDrawn 1 9 b_iM_taped b_iM_size b_x_6240 b_x_6243 b_z_6210 b_iM_hasCourt b_iM_undos b_iM_images b_iM_scale b_iM_breaths b_iM_cutMany e_x_6239_1 (om_dc317686 kc_1 kc_9)) (cwV 2 hts (wd_V wd_446 wd_447 wd_448 wd_5 (wd_c wd_449)) rfl rfl rfl dv_yX7_number_2 ⟨Nat.le_of_ble_eq_true rfl, Nat.le_of_ble_eq_true rfl⟩) ⟨Pw.fb, recvX7 hK hP (q0 := 0) rfl, fun U hU hW => Pw.to (hP.ms _ hMs) (hD.ms _ hMs) (hK.ms [true, true, false, false, false] rfl) hE hS hFc hU hW⟩ rfl rfl hl.1 rfl (lv_room (Nat.le_of_ble_eq_true rfl)) dX7_innerLine_123 ⟨Nat.le_of_ble_eq_true rfl, Nat.le_of_ble_eq_true rfl⟩) hS (fun q _ h => hFc q h) hFc (fun r u t H locs ht hvm hw hB hz1 hk1 hS => ?_)
                        have hru9 := hw.2
                        have hw := hw.1
                        refine ex_9_8 hB (fun x_6265 x_6266 x_6267 x_6268 x_6269 x_6270 x_6271 x_6272 f_6273 b_x_6266 b_x_6269 b_x_6272 e_x_6265_0 e_x_6265_1 e_x_6265_2 e_x_6265_3 e_x_6265_4 hB => ?_)
                        obtain ⟨hP, hD⟩ := Bw.goN (ws' := [(oc7 oM iM_thrown rM_tape iM_taped iM_size x_6265 x_6266 x_6267 x_6268 x_6269 x_6270 x_6271 iM_trouble rM_letters x_6272 iM_hasCourt rM_r rM_fresh rM_told rM_read rM_st rM_undone rM_kept iM_undos iM_images rM_fresher x_6169 iM_scale iM_night rM_heardRow rM_cutRow iM_breaths iM_cutMany iM_allBreaths rM_trial rM_words iM_fewestBreaths iM_orderMany iM_orderSum iM_leastOrder rM_often iM_setMany iM_someOf iM_allOf iM_allWeight iM_enoughWeight iM_worthSum iM_firstRest iM_leastDrawn), (arI rM_tape kM_tape 900 fM_tape), (arI rM_letters kM_letters 8 f_6273), (arI rM_fresh kM_fresh 287 f_6184), (arI rM_read kM_read 90 f_6185), (arI rM_fresher kM_fresher 8 f_6171)]) hB rfl ht hP hD _ hMs hk1 hFc rfl
                        clear hz1 hk1 hvm ht hB hMs
                        rw [← hru9] at e_x_6265_4
                        obtain ⟨x_6274, rfl⟩ : ∃ z, z = r := ⟨_, rfl⟩
                        have hG := hG.trans (un10_eq e_x_6265_4)
                        have lx_6274 := hw.2
                        have kl_1 := kc_1
                        have kl_9 := kc_9
                        clear e_x_6239_1
                        clear e_x_6239_2
                        refine lv_goto (tgt := 130) hx hb dX7_innerLine_126 (by decide) ?_
                        refine lv_istore (lv' := [(6, .int x_6274), (5, .int x_6208), (4, .int z_6174), (3, .int z_6173), (2, .int x_6172), (0, .ref oM), (1, .int p0)]) hx hb dX7_innerLine_130 hl (by decide) rfl (fun ls hl => ?_)
                        refine lv_aload_n hx hb dX7_innerLine_132 rfl (lv_at hl 5 rfl) ?_
                        refine va_get (D := (dC, dI)) (ci := 7) (v := .int x_6272) (C := RX7) (T := TX7) (N := 48) hx hb hts inX7 hown hK hP 0 rfl rfl 13 (by decide) (hts _ wd_380) (fun _ h9 => h9) rfl dX7_innerLine_133 ?_
                        refine lv_if_eq (tgt := 140) hx hb dX7_innerLine_136 (by decide) (fun c_6275 => ?_) (fun c_6275 => ?_)
                        · skip
                          have hG := hG.trans (if_pos c_6275)
                          have gc_6275 := ti_eq c_6275 rfl kc_0
                          refine lv_aload_n hx hb dX7_innerLine_140 rfl (lv_at hl 5 rfl) ?_
                          refine va_get (D := (dC, dI)) (ci := 7) (v := .ref rM_read) (C := RX7) (T := TX7) (N := 48) hx hb hts inX7 hown hK hP 0 rfl rfl 18 (by decide) (hts _ wd_158) (fun _ h9 => h9) rfl dX7_innerLine_141 ?_
                          refine lv_iconst (v := 4) hx hb dX7_innerLine_144 (by decide) ?_
                          refine lv_iload_n hx hb dX7_innerLine_145 rfl (lv_at hl 4 rfl) ?_
                          refine lv_imul hx hb dX7_innerLine_146 ?_
                          refine lv_topi (fun x_6276 ex_6276 => ?_)
                          have hG := hG.trans (lt_eq ex_6276)
                          have vx_6276 : x_6276.toInt = 4 * x_6172.toInt := ti_mul ex_6276 kc_4 rfl (om_9e6bb6a4 pl_fM_fresh.2.2.2.2.1.1 pl_fM_fresh.2.2.2.2.1.2 cx_6172) (om_7d3cae7d pl_fM_fresh.2.1 pl_fM_fresh.2.2.1.2 pl_fM_fresh.2.2.2.2.2.1.2 cx_6172)
                          refine lv_iload_n hx hb dX7_innerLine_147 rfl (lv_at hl 3 rfl) ?_
                          refine lv_iadd hx hb dX7_innerLine_148 ?_
                          refine lv_topi (fun x_6277 ex_6277 => ?_)
                          have hG := hG.trans (lt_eq ex_6277)
                          have vx_6277 : x_6277.toInt = 4 * x_6172.toInt + z_6173.toInt := om_5d0caf0f (ti_add ex_6277 vx_6276 rfl (om_80a5d224 pl_fM_fresh.2.2.2.2.1.1 pl_fM_fresh.2.2.2.2.1.2 cx_6172 hi0_n_6186.1) (om_65488096 pl_fM_fresh.2.1 pl_fM_fresh.2.2.1.2 pl_fM_fresh.2.2.2.2.2.1.2 cx_6172 hi0_n_6186.2))
                          refine lv_iload hx hb dX7_innerLine_149 (lv_at hl 1 rfl) ?_
                          refine va_iast hx hb hK hP hD hS 4 3 rfl rfl (ti_in vx_6277 (om_dcc527d7 pl_fM_fresh.2.2.2.2.1.1 pl_fM_fresh.2.2.2.2.1.2 cx_6172 hi0_n_6186.1) (om_1343fdf1 pl_fM_fresh.2.1 pl_fM_fresh.2.2.1.2 pl_fM_fresh.2.2.2.2.2.1.2 cx_6172 hi0_n_6186.2)) dX7_innerLine_151 (fun H locs hP hD hS => ?_)
                          obtain ⟨f_6278, ef_6278⟩ : ∃ g : Nat → Int32, g = upd f_6185 x_6277.toNatClampNeg x_6208 := ⟨_, rfl⟩
                          rw [← ef_6278] at hP hD
                          have hG := hG.trans (lt_eq ef_6278)
                          obtain ⟨hP, hD⟩ := wl2 (ws' := [(oc7 oM iM_thrown rM_tape iM_taped iM_size x_6265 x_6266 x_6267 x_6268 x_6269 x_6270 x_6271 iM_trouble rM_letters x_6272 iM_hasCourt rM_r rM_fresh rM_told rM_read rM_st rM_undone rM_kept iM_undos iM_images rM_fresher x_6169 iM_scale iM_night rM_heardRow rM_cutRow iM_breaths iM_cutMany iM_allBreaths rM_trial rM_words iM_fewestBreaths iM_orderMany iM_orderSum iM_leastOrder rM_often iM_setMany iM_someOf iM_allOf iM_allWeight iM_enoughWeight iM_worthSum iM_firstRest iM_leastDrawn), (arI rM_tape kM_tape 900 fM_tape), (arI rM_letters kM_letters 8 f_6273), (arI rM_fresh kM_fresh 287 f_6184), (arI rM_read kM_read 90 f_6278), (arI rM_fresher kM_fresher 8 f_6171)]) hP hD rfl
                          have q_n1 := ti_cl (x := f_6184 1) rfl (by omega)
                          have pk_f_6278 : POk f_6184 f_6278 := POk.prt hi2_n_6186 ef_6278 (by have q9 := ti_cl (x := x_6277) vx_6277 (om_dcc527d7 pl_fM_fresh.2.2.2.2.1.1 pl_fM_fresh.2.2.2.2.1.2 cx_6172 hi0_n_6186.1); omega) (by have q9 := ti_cl (x := x_6277) vx_6277 (om_dcc527d7 pl_fM_fresh.2.2.2.2.1.1 pl_fM_fresh.2.2.2.2.1.2 cx_6172 hi0_n_6186.1); omega)
                          refine lv_aload_n hx hb dX7_innerLine_152 rfl (lv_at hl 5 rfl) ?_
                          refine va_get (D := (dC, dI)) (ci := 7) (v := .ref rM_fresh) (C := RX7) (T := TX7) (N := 48) hx hb hts inX7 hown hK hP 0 rfl rfl 16 (by decide) (hts _ wd_156) (fun _ h9 => h9) rfl dX7_innerLine_153 ?_
                          refine lv_bipush (v := 45) hx hb dX7_innerLine_156 (by decide) ?_
                          refine lv_iconst (v := 4) hx hb dX7_innerLine_158 (by decide) ?_
                          refine lv_iload_n hx hb dX7_innerLine_159 rfl (lv_at hl 4 rfl) ?_
                          refine lv_imul hx hb dX7_innerLine_160 ?_
                          refine lv_topi (fun x_6279 ex_6279 => ?_)
                          have hG := hG.trans (lt_eq ex_6279)
                          have vx_6279 : x_6279.toInt = 4 * x_6172.toInt := ti_mul ex_6279 kc_4 rfl (om_9e6bb6a4 pl_fM_fresh.2.2.2.2.1.1 pl_fM_fresh.2.2.2.2.1.2 cx_6172) (om_7d3cae7d pl_fM_fresh.2.1 pl_fM_fresh.2.2.1.2 pl_fM_fresh.2.2.2.2.2.1.2 cx_6172)
                          refine lv_iadd hx hb dX7_innerLine_161 ?_
                          refine lv_topi (fun x_6280 ex_6280 => ?_)
                          have hG := hG.trans (lt_eq ex_6280)
                          have vx_6280 : x_6280.toInt = 4 * x_6172.toInt + 45 := om_702bf7ac (ti_add ex_6280 kc_45 vx_6279 (om_0c5ad906 pl_fM_fresh.2.2.2.2.1.1 pl_fM_fresh.2.2.2.2.1.2 cx_6172) (om_5da1924c pl_fM_fresh.2.1 pl_fM_fresh.2.2.1.2 pl_fM_fresh.2.2.2.2.2.1.2 cx_6172))
                          refine lv_iload_n hx hb dX7_innerLine_162 rfl (lv_at hl 3 rfl) ?_
                          refine lv_iadd hx hb dX7_innerLine_163 ?_
                          refine lv_topi (fun x_6281 ex_6281 => ?_)
                          have hG := hG.trans (lt_eq ex_6281)
                          have vx_6281 : x_6281.toInt = 4 * x_6172.toInt + z_6173.toInt + 45 := om_0ab12ad6 (ti_add ex_6281 vx_6280 rfl (om_563b8554 pl_fM_fresh.2.2.2.2.1.1 pl_fM_fresh.2.2.2.2.1.2 cx_6172 hi0_n_6186.1) (om_87f6ba8c pl_fM_fresh.2.1 pl_fM_fresh.2.2.1.2 pl_fM_fresh.2.2.2.2.2.1.2 cx_6172 hi0_n_6186.2))
                          refine lv_iload hx hb dX7_innerLine_164 (lv_at hl 0 rfl) ?_
                          refine va_iast hx hb hK hP hD hS 3 2 rfl rfl (ti_in vx_6281 (om_d2c9edc5 pl_fM_fresh.2.2.2.2.1.1 pl_fM_fresh.2.2.2.2.1.2 cx_6172 hi0_n_6186.1) (om_21e450b4 pl_fM_fresh.2.1 pl_fM_fresh.2.2.1.2 pl_fM_fresh.2.2.2.2.2.1.2 cx_6172 hi0_n_6186.2)) dX7_innerLine_166 (fun H locs hP hD hS => ?_)
                          obtain ⟨f_6282, ef_6282⟩ : ∃ g : Nat → Int32, g = upd f_6184 x_6281.toNatClampNeg x_6274 := ⟨_, rfl⟩
                          rw [← ef_6282] at hP hD
                          have hG := hG.trans (lt_eq ef_6282)
                          obtain ⟨hP, hD⟩ := wl2 (ws' := [(oc7 oM iM_thrown rM_tape iM_taped iM_size x_6265 x_6266 x_6267 x_6268 x_6269 x_6270 x_6271 iM_trouble rM_letters x_6272 iM_hasCourt rM_r rM_fresh rM_told rM_read rM_st rM_undone rM_kept iM_undos iM_images rM_fresher x_6169 iM_scale iM_night rM_heardRow rM_cutRow iM_breaths iM_cutMany iM_allBreaths rM_trial rM_words iM_fewestBreaths iM_orderMany iM_orderSum iM_leastOrder rM_often iM_setMany iM_someOf iM_allOf iM_allWeight iM_enoughWeight iM_worthSum iM_firstRest iM_leastDrawn), (arI rM_tape kM_tape 900 fM_tape), (arI rM_letters kM_letters 8 f_6273), (arI rM_fresh kM_fresh 287 f_6282), (arI rM_read kM_read 90 f_6278), (arI rM_fresher kM_fresher 8 f_6171)]) hP hD rfl
                          have pk_f_6282 : POk f_6282 f_6278 := POk.put pk_f_6278 ef_6282 (Or.inr (Or.inr (Or.inr (Or.inr (Or.inr (Or.inl (by have q9 := ti_cl (x := x_6281) vx_6281 (om_d2c9edc5 pl_fM_fresh.2.2.2.2.1.1 pl_fM_fresh.2.2.2.2.1.2 cx_6172 hi0_n_6186.1); omega)))))))
                          have pl_f_6282 := pk_f_6282.lins
                          have nn9 : (f_6184 1).toNatClampNeg = x_6172.toNatClampNeg := by have q1 := ti_cl (x := x_6172) rfl (om_1ab2c227 pl_fM_fresh.2.2.2.2.1.1 pl_fM_fresh.2.2.2.2.1.2 cx_6172); have q2 := ti_cl (x := f_6184 1) rfl (by omega); have q3 := ti_cl (x := z_6173) rfl hi0_n_6186.1; omega
                          have in9 : InOk f_6282 f_6278 (f_6282 1).toNatClampNeg (z_6173.toNatClampNeg + 1) p0.toInt := in_step hi3_n_6186 rfl ef_6278 (by have q1 := ti_cl (x := x_6172) rfl (om_1ab2c227 pl_fM_fresh.2.2.2.2.1.1 pl_fM_fresh.2.2.2.2.1.2 cx_6172); have q2 := ti_cl (x := f_6184 1) rfl (by omega); have q3 := ti_cl (x := z_6173) rfl hi0_n_6186.1; have q9 := ti_cl (x := x_6277) vx_6277 (om_dcc527d7 pl_fM_fresh.2.2.2.2.1.1 pl_fM_fresh.2.2.2.2.1.2 cx_6172 hi0_n_6186.1); omega) ef_6282 (by have q1 := ti_cl (x := x_6172) rfl (om_1ab2c227 pl_fM_fresh.2.2.2.2.1.1 pl_fM_fresh.2.2.2.2.1.2 cx_6172); have q2 := ti_cl (x := f_6184 1) rfl (by omega); have q3 := ti_cl (x := z_6173) rfl hi0_n_6186.1; have q9 := ti_cl (x := x_6281) vx_6281 (om_d2c9edc5 pl_fM_fresh.2.2.2.2.1.1 pl_fM_fresh.2.2.2.2.1.2 cx_6172 hi0_n_6186.1); omega) (by omega) (by have q1 := ti_cl (x := x_6172) rfl (om_1ab2c227 pl_fM_fresh.2.2.2.2.1.1 pl_fM_fresh.2.2.2.2.1.2 cx_6172); have q2 := ti_cl (x := f_6184 1) rfl (by omega); have q3 := ti_cl (x := z_6173) rfl hi0_n_6186.1; omega) (fun i9 h9 => by rw [nn9]; exact hi2_n_6213 (by omega) i9 (by have q1 := ti_cl (x := x_6172) rfl (om_1ab2c227 pl_fM_fresh.2.2.2.2.1.1 pl_fM_fresh.2.2.2.2.1.2 cx_6172); have q2 := ti_cl (x := f_6184 1) rfl (by omega); have q3 := ti_cl (x := z_6173) rfl hi0_n_6186.1; have q4 := ti_cl (x := z_6209) rfl hi0_n_6213.1; omega)) (fun h9 => by have q0 := kc_0; omega) rfl
                          have o1_f_6282 : (f_6282 1).toInt = (f_6184 1).toInt := put_at ef_6282 (Nat.ne_of_lt (om_9b872883 (ti_cl (x := x_6281) vx_6281 (om_d2c9edc5 pl_fM_fresh.2.2.2.2.1.1 pl_fM_fresh.2.2.2.2.1.2 cx_6172 hi0_n_6186.1)) pl_fM_fresh.2.2.2.2.1.1 pl_fM_fresh.2.2.2.2.1.2 cx_6172 hi0_n_6186.1))
                          have o7_f_6282 : (f_6282 7).toInt = (f_6184 7).toInt := put_at ef_6282 (Nat.ne_of_lt (om_58da8a1c (ti_cl (x := x_6281) vx_6281 (om_d2c9edc5 pl_fM_fresh.2.2.2.2.1.1 pl_fM_fresh.2.2.2.2.1.2 cx_6172 hi0_n_6186.1)) pl_fM_fresh.2.2.2.2.1.1 pl_fM_fresh.2.2.2.2.1.2 cx_6172 hi0_n_6186.1))
                          have o8_f_6282 : (f_6282 8).toInt = (f_6184 8).toInt := put_at ef_6282 (Nat.ne_of_lt (om_f4400bad (ti_cl (x := x_6281) vx_6281 (om_d2c9edc5 pl_fM_fresh.2.2.2.2.1.1 pl_fM_fresh.2.2.2.2.1.2 cx_6172 hi0_n_6186.1)) pl_fM_fresh.2.2.2.2.1.1 pl_fM_fresh.2.2.2.2.1.2 cx_6172 hi0_n_6186.1))
                          obtain ⟨x_6283, ex_6283⟩ : ∃ z : Int32, z = z_6173 + Int32.ofInt 1 := ⟨_, rfl⟩
                          have hG := hG.trans (lt_eq ex_6283)
                          have vx_6283 : x_6283.toInt = z_6173.toInt + 1 := ti_add (y := 1) ex_6283 rfl kc_1 (om_4e4fce7e hi0_n_6186.1) (om_bae2951a hi0_n_6186.2)
                          refine lv_iinc (v := x_6283) (lv' := [(3, .int x_6283), (6, .int x_6274), (5, .int x_6208), (4, .int z_6174), (2, .int x_6172), (0, .ref oM), (1, .int p0)]) hx hb dX7_innerLine_167 hl (k := 3) rfl ex_6283.symm (by decide) rfl (fun ls hl => ?_)
                          refine lv_aload_n hx hb dX7_innerLine_170 rfl (lv_at hl 5 rfl) ?_
                          refine va_get (D := (dC, dI)) (ci := 7) (v := .int x_6267) (C := RX7) (T := TX7) (N := 48) hx hb hts inX7 hown hK hP 0 rfl rfl 6 (by decide) (hts _ wd_383) (fun _ h9 => h9) rfl dX7_innerLine_171 ?_
                          refine lv_bipush (v := 44) hx hb dX7_innerLine_174 (by decide) ?_
                          refine lv_icmp_ne (tgt := 183) hx hb dX7_innerLine_176 (by decide) (fun c_6284 => ?_) (fun c_6284 => ?_)
                          · skip
                            have hG := hG.trans (if_neg c_6284)
                            have gc_6284 := ti_ne c_6284 rfl kc_44
                            clear gc_6284
                            refine lv_iconst (v := 0) hx hb dX7_innerLine_183 (by decide) ?_
                            refine lv_istore (lv' := [(4, .int 0), (3, .int x_6283), (6, .int x_6274), (5, .int x_6208), (2, .int x_6172), (0, .ref oM), (1, .int p0)]) hx hb dX7_innerLine_184 hl (by decide) rfl (fun ls hl => ?_)
                            refine lv_iload hx hb dX7_innerLine_186 (lv_at hl 0 rfl) ?_
                            refine lv_if_eq (tgt := 195) hx hb dX7_innerLine_188 (by decide) (fun _ => ?_) (fun c => absurd c (by decide))
                            refine lv_goto (tgt := 24) hx hb dX7_innerLine_195 (by decide) ?_
                            exact ih_n_6186 x_6283 0 x_6265 x_6266 x_6267 x_6268 x_6269 x_6270 x_6271 x_6272 f_6273 f_6282 f_6278 _ _ _ b_x_6266 b_x_6269 b_x_6272 ⟨(om_83b90de5 hi0_n_6186.1 vx_6283), (om_2c69d3de gc_6238 vx_6283)⟩ ⟨(om_b1de7dbe kc_0), (om_270f4ea0 kc_0)⟩ (by assumption) (by rw [show x_6283.toNatClampNeg = z_6173.toNatClampNeg + 1 from (by have q1 := ti_cl (x := x_6283) vx_6283 (om_9548a8fd hi0_n_6186.1); have q2 := ti_cl (x := z_6173) rfl hi0_n_6186.1; omega)]; exact in9) ⟨(om_216d7917 hi4_n_6186.1 o1_f_6282), (om_216d7917 hi4_n_6186.2.1 o7_f_6282), (om_216d7917 hi4_n_6186.2.2 o8_f_6282)⟩ (fun h9 => (om_285f573d hi0_n_6186.1 vx_6283)) e_x_6265_1 (om_622f2a87 hi7_n_6186 e_x_6239_0 e_x_6265_0) (fun h9 => (om_2d38588c hi7_n_6186 e_x_6239_0 (e_x_6265_3 ⟨(om_02e9bb08 gc_6275), h9.2⟩))) (ms_lt hm_n_6186 (om_ed22490e vx_6283) (om_36ac28fa gc_6238)) hG hP hD hS (lv_sub hl [0, 1, 4, 5, 6] rfl)
                          · skip
                            have hG := hG.trans (if_pos c_6284)
                            have gc_6284 := ti_eq c_6284 rfl kc_44
                            refine lv_iconst (v := 1) hx hb dX7_innerLine_179 (by decide) ?_
                            refine lv_goto (tgt := 184) hx hb dX7_innerLine_180 (by decide) ?_
                            refine lv_istore (lv' := [(4, .int 1), (3, .int x_6283), (6, .int x_6274), (5, .int x_6208), (2, .int x_6172), (0, .ref oM), (1, .int p0)]) hx hb dX7_innerLine_184 hl (by decide) rfl (fun ls hl => ?_)
                            refine lv_iload hx hb dX7_innerLine_186 (lv_at hl 0 rfl) ?_
                            refine lv_if_eq (tgt := 195) hx hb dX7_innerLine_188 (by decide) (fun c => absurd c (by decide)) (fun _ => ?_)
                            refine lv_aload_n hx hb dX7_innerLine_191 rfl (lv_at hl 5 rfl) ?_
                            have hMs := ml_of hD [true, true, true, false, false, false] (wc := [(oc7 oM iM_thrown rM_tape iM_taped iM_size x_6265 x_6266 x_6267 x_6268 x_6269 x_6270 x_6271 iM_trouble rM_letters x_6272 iM_hasCourt rM_r rM_fresh rM_told rM_read rM_st rM_undone rM_kept iM_undos iM_images rM_fresher x_6169 iM_scale iM_night rM_heardRow rM_cutRow iM_breaths iM_cutMany iM_allBreaths rM_trial rM_words iM_fewestBreaths iM_orderMany iM_orderSum iM_leastOrder rM_often iM_setMany iM_someOf iM_allOf iM_allWeight iM_enoughWeight iM_worthSum iM_firstRest iM_leastDrawn), (arI rM_tape kM_tape 900 fM_tape), (arI rM_letters kM_letters 8 f_6273)]) rfl
                            have hFc := va_freeM hD hS hA _ hMs
                            refine va_callv (va_runV (As := []) (rest := []) ⟨hx, hb, hml, hown, hts⟩ (tX7_next l dC dI _ oM iM_thrown rM_tape fM_tape kM_tape iM_taped iM_size x_6265 x_6266 x_6267 x_6268 x_6269 x_6270 x_6271 iM_trouble rM_letters f_6273 kM_letters x_6272 iM_hasCourt rM_r rM_fresh rM_told rM_read rM_st rM_undone rM_kept iM_undos iM_images rM_fresher x_6169 iM_scale iM_night rM_heardRow rM_cutRow iM_breaths iM_cutMany iM_allBreaths rM_trial rM_words iM_fewestBreaths iM_orderMany iM_orderSum iM_leastOrder rM_often iM_setMany iM_someOf iM_allOf iM_allWeight iM_enoughWeight iM_worthSum iM_firstRest iM_leastDrawn b_iM_taped b_iM_size b_x_6266 b_x_6269 b_x_6272 b_iM_hasCourt b_iM_undos b_iM_images b_iM_scale b_iM_breaths b_iM_cutMany e_x_6265_1) (cwV 0 hts (wd_V wd_400 wd_401 wd_402 wd_5 (wd_c wd_403)) rfl rfl rfl dv_yX7_next_0 ⟨Nat.le_of_ble_eq_true rfl, Nat.le_of_ble_eq_true rfl⟩) ⟨Pw.fb, recvX7 hK hP (q0 := 0) rfl, fun U hU hW => Pw.to (hP.ms _ hMs) (hD.ms _ hMs) (hK.ms [true, true, false, false, false] rfl) hE hS hFc hU hW⟩ rfl rfl hl.1 rfl (lv_room (Nat.le_of_ble_eq_true rfl)) dX7_innerLine_192 ⟨Nat.le_of_ble_eq_true rfl, Nat.le_of_ble_eq_true rfl⟩) hS (fun q _ h => hFc q h) hFc (fun u t H locs ht hvm hw hB hz1 hk1 hS => ?_)
                            refine ex_6_6 hB (fun x_6287 x_6288 x_6289 x_6290 x_6291 f_6292 b_x_6288 b_x_6291 e_x_6287_0 e_x_6287_1 e_x_6287_2 e_x_6287_3 hB => ?_)
                            obtain ⟨hP, hD⟩ := Bw.goN (ws' := [(oc7 oM iM_thrown rM_tape iM_taped iM_size x_6287 x_6288 x_6289 x_6290 x_6291 x_6270 x_6271 iM_trouble rM_letters x_6272 iM_hasCourt rM_r rM_fresh rM_told rM_read rM_st rM_undone rM_kept iM_undos iM_images rM_fresher x_6169 iM_scale iM_night rM_heardRow rM_cutRow iM_breaths iM_cutMany iM_allBreaths rM_trial rM_words iM_fewestBreaths iM_orderMany iM_orderSum iM_leastOrder rM_often iM_setMany iM_someOf iM_allOf iM_allWeight iM_enoughWeight iM_worthSum iM_firstRest iM_leastDrawn), (arI rM_tape kM_tape 900 fM_tape), (arI rM_letters kM_letters 8 f_6292), (arI rM_fresh kM_fresh 287 f_6282), (arI rM_read kM_read 90 f_6278), (arI rM_fresher kM_fresher 8 f_6171)]) hB rfl ht hP hD _ hMs hk1 hFc rfl
                            clear hz1 hk1 hvm ht hB hMs
                            have hG := hG.trans (un6_eq e_x_6287_3)
                            clear e_x_6265_1
                            clear e_x_6265_3
                            refine lv_goto (tgt := 24) hx hb dX7_innerLine_195 (by decide) ?_
                            exact ih_n_6186 x_6283 1 x_6287 x_6288 x_6289 x_6290 x_6291 x_6270 x_6271 x_6272 f_6292 f_6282 f_6278 _ _ _ b_x_6288 b_x_6291 b_x_6272 ⟨(om_83b90de5 hi0_n_6186.1 vx_6283), (om_2c69d3de gc_6238 vx_6283)⟩ ⟨(om_1b364b1c kc_1), (om_02032f93 kc_1)⟩ (by assumption) (by rw [show x_6283.toNatClampNeg = z_6173.toNatClampNeg + 1 from (by have q1 := ti_cl (x := x_6283) vx_6283 (om_9548a8fd hi0_n_6186.1); have q2 := ti_cl (x := z_6173) rfl hi0_n_6186.1; omega)]; exact in9) ⟨(om_216d7917 hi4_n_6186.1 o1_f_6282), (om_216d7917 hi4_n_6186.2.1 o7_f_6282), (om_216d7917 hi4_n_6186.2.2 o8_f_6282)⟩ (fun h9 => (om_285f573d hi0_n_6186.1 vx_6283)) e_x_6287_1 (om_dc41b317 hi7_n_6186 e_x_6239_0 e_x_6265_0 e_x_6287_0) (fun h9 => (om_67b34c44 hi7_n_6186 e_x_6239_0 e_x_6265_0 (e_x_6287_2 h9.2))) (ms_lt hm_n_6186 (om_ed22490e vx_6283) (om_36ac28fa gc_6238)) hG hP hD hS (lv_sub hl [0, 1, 4, 5, 6] rfl)
                        · skip
                          have hG := hG.trans (if_neg c_6275)
                          have gc_6275 := ti_ne c_6275 rfl kc_0
                          replace gc_6275 : (-1) * x_6272.toInt + 1 ≤ 0 := om_e3003f79 gc_6275 b_x_6272.1
                          exact wq_v hx hb hr 0 trivial (fun t ht hW => ⟨x_6265, x_6266, x_6267, x_6268, x_6269, x_6270, x_6271, x_6272, x_6169, f_6273, f_6184, f_6185, f_6171, b_x_6266, b_x_6269, b_x_6272, (om_622f2a87 hi7_n_6186 e_x_6239_0 e_x_6265_0), e_x_6265_1, (om_1fc3dec6 gc_6159 b_x_6272.1), (fun h9 => False.elim (om_a5fe015d gc_6275 h9.1)), hi2_n_6186, hG, Bw.to hP hD hK ht hW⟩) hS dX7_innerLine_139 hlocks
                    · skip
                      have hG := hG.trans (if_pos c_6238)
                      have gc_6238 := ti_eq c_6238 rfl kc_4
                      refine lv_aload_n hx hb dX7_innerLine_101 rfl (lv_at hl 5 rfl) ?_
                      refine lv_iconst (v := 5) hx hb dX7_innerLine_102 (by decide) ?_
                      refine lv_aload_n hx hb dX7_innerLine_103 rfl (lv_at hl 5 rfl) ?_
                      refine va_get (D := (dC, dI)) (ci := 7) (v := .int z_6175) (C := RX7) (T := TX7) (N := 48) hx hb hts inX7 hown hK hP 0 rfl rfl 4 (by decide) (hts _ wd_384) (fun _ h9 => h9) rfl dX7_innerLine_104 ?_
                      have hMs := ml_of hD [true, false, false, false, false, false] (wc := [(oc7 oM iM_thrown rM_tape iM_taped iM_size z_6175 z_6176 z_6177 z_6178 z_6179 z_6211 z_6212 iM_trouble rM_letters z_6210 iM_hasCourt rM_r rM_fresh rM_told rM_read rM_st rM_undone rM_kept iM_undos iM_images rM_fresher x_6169 iM_scale iM_night rM_heardRow rM_cutRow iM_breaths iM_cutMany iM_allBreaths rM_trial rM_words iM_fewestBreaths iM_orderMany iM_orderSum iM_leastOrder rM_often iM_setMany iM_someOf iM_allOf iM_allWeight iM_enoughWeight iM_worthSum iM_firstRest iM_leastDrawn)]) rfl
                      have hFc := va_freeM hD hS hA _ hMs
                      refine va_callv (va_runV (As := [.int 5, .int z_6175]) (rest := []) ⟨hx, hb, hml, hown, hts⟩ (tX7_wrong l dC dI _ oM iM_thrown rM_tape iM_taped iM_size z_6175 z_6176 z_6177 z_6178 z_6179 z_6211 z_6212 iM_trouble rM_letters z_6210 iM_hasCourt rM_r rM_fresh rM_told rM_read rM_st rM_undone rM_kept iM_undos iM_images rM_fresher x_6169 iM_scale iM_night rM_heardRow rM_cutRow iM_breaths iM_cutMany iM_allBreaths rM_trial rM_words iM_fewestBreaths iM_orderMany iM_orderSum iM_leastOrder rM_often iM_setMany iM_someOf iM_allOf iM_allWeight iM_enoughWeight iM_worthSum iM_firstRest iM_leastDrawn 5 z_6175 b_iM_taped b_iM_size b_z_6176 b_z_6179 b_z_6210 b_iM_hasCourt b_iM_undos b_iM_images b_iM_scale b_iM_breaths b_iM_cutMany hi6_n_6186) (cwV 2 hts (wd_V wd_430 wd_431 wd_432 wd_5 (wd_c wd_433)) rfl rfl rfl dv_yX7_wrong_2 ⟨Nat.le_of_ble_eq_true rfl, Nat.le_of_ble_eq_true rfl⟩) ⟨Pw.fb, recvX7 hK hP (q0 := 0) rfl, fun U hU hW => Pw.to (hP.ms _ hMs) (hD.ms _ hMs) (hK.ms [false, false, false, false, false] rfl) hE hS hFc hU hW⟩ rfl rfl hl.1 rfl (lv_room (Nat.le_of_ble_eq_true rfl)) dX7_innerLine_107 ⟨Nat.le_of_ble_eq_true rfl, Nat.le_of_ble_eq_true rfl⟩) hS (fun q _ h => hFc q h) hFc (fun u t H locs ht hvm hw hB hz1 hk1 hS => ?_)
                      refine ex_3_3 hB (fun x_6293 x_6294 x_6295 b_x_6295 e_x_6293_0 e_x_6293_1 hB => ?_)
                      obtain ⟨hP, hD⟩ := Bw.goN (ws' := [(oc7 oM iM_thrown rM_tape iM_taped iM_size z_6175 z_6176 z_6177 z_6178 z_6179 x_6293 x_6294 iM_trouble rM_letters x_6295 iM_hasCourt rM_r rM_fresh rM_told rM_read rM_st rM_undone rM_kept iM_undos iM_images rM_fresher x_6169 iM_scale iM_night rM_heardRow rM_cutRow iM_breaths iM_cutMany iM_allBreaths rM_trial rM_words iM_fewestBreaths iM_orderMany iM_orderSum iM_leastOrder rM_often iM_setMany iM_someOf iM_allOf iM_allWeight iM_enoughWeight iM_worthSum iM_firstRest iM_leastDrawn), (arI rM_tape kM_tape 900 fM_tape), (arI rM_letters kM_letters 8 f_6183), (arI rM_fresh kM_fresh 287 f_6184), (arI rM_read kM_read 90 f_6185), (arI rM_fresher kM_fresher 8 f_6171)]) hB rfl ht hP hD _ hMs hk1 hFc rfl
                      clear hz1 hk1 hvm ht hB hMs
                      have hG := hG.trans (un3_eq e_x_6293_1)
                      refine lv_aload_n hx hb dX7_innerLine_110 rfl (lv_at hl 5 rfl) ?_
                      have hMs := ml_of hD [true, true, true, false, false, false] (wc := [(oc7 oM iM_thrown rM_tape iM_taped iM_size z_6175 z_6176 z_6177 z_6178 z_6179 x_6293 x_6294 iM_trouble rM_letters x_6295 iM_hasCourt rM_r rM_fresh rM_told rM_read rM_st rM_undone rM_kept iM_undos iM_images rM_fresher x_6169 iM_scale iM_night rM_heardRow rM_cutRow iM_breaths iM_cutMany iM_allBreaths rM_trial rM_words iM_fewestBreaths iM_orderMany iM_orderSum iM_leastOrder rM_often iM_setMany iM_someOf iM_allOf iM_allWeight iM_enoughWeight iM_worthSum iM_firstRest iM_leastDrawn), (arI rM_tape kM_tape 900 fM_tape), (arI rM_letters kM_letters 8 f_6183)]) rfl
                      have hFc := va_freeM hD hS hA _ hMs
                      refine va_callv (va_runV (As := []) (rest := []) ⟨hx, hb, hml, hown, hts⟩ (tX7_pass l dC dI _ oM iM_thrown rM_tape fM_tape kM_tape iM_taped iM_size z_6175 z_6176 z_6177 z_6178 z_6179 x_6293 x_6294 iM_trouble rM_letters f_6183 kM_letters x_6295 iM_hasCourt rM_r rM_fresh rM_told rM_read rM_st rM_undone rM_kept iM_undos iM_images rM_fresher x_6169 iM_scale iM_night rM_heardRow rM_cutRow iM_breaths iM_cutMany iM_allBreaths rM_trial rM_words iM_fewestBreaths iM_orderMany iM_orderSum iM_leastOrder rM_often iM_setMany iM_someOf iM_allOf iM_allWeight iM_enoughWeight iM_worthSum iM_firstRest iM_leastDrawn b_iM_taped b_iM_size b_z_6176 b_z_6179 b_x_6295 b_iM_hasCourt b_iM_undos b_iM_images b_iM_scale b_iM_breaths b_iM_cutMany hi6_n_6186) (cwV 0 hts (wd_V wd_454 wd_455 wd_456 wd_5 (wd_c wd_457)) rfl rfl rfl dv_yX7_pass_0 ⟨Nat.le_of_ble_eq_true rfl, Nat.le_of_ble_eq_true rfl⟩) ⟨Pw.fb, recvX7 hK hP (q0 := 0) rfl, fun U hU hW => Pw.to (hP.ms _ hMs) (hD.ms _ hMs) (hK.ms [true, true, false, false, false] rfl) hE hS hFc hU hW⟩ rfl rfl hl.1 rfl (lv_room (Nat.le_of_ble_eq_true rfl)) dX7_innerLine_111 ⟨Nat.le_of_ble_eq_true rfl, Nat.le_of_ble_eq_true rfl⟩) hS (fun q _ h => hFc q h) hFc (fun u t H locs ht hvm hw hB hz1 hk1 hS => ?_)
                      refine ex_6_6 hB (fun x_6296 x_6297 x_6298 x_6299 x_6300 f_6301 b_x_6297 b_x_6300 e_x_6296_0 e_x_6296_1 e_x_6296_2 e_x_6296_3 hB => ?_)
                      obtain ⟨hP, hD⟩ := Bw.goN (ws' := [(oc7 oM iM_thrown rM_tape iM_taped iM_size x_6296 x_6297 x_6298 x_6299 x_6300 x_6293 x_6294 iM_trouble rM_letters x_6295 iM_hasCourt rM_r rM_fresh rM_told rM_read rM_st rM_undone rM_kept iM_undos iM_images rM_fresher x_6169 iM_scale iM_night rM_heardRow rM_cutRow iM_breaths iM_cutMany iM_allBreaths rM_trial rM_words iM_fewestBreaths iM_orderMany iM_orderSum iM_leastOrder rM_often iM_setMany iM_someOf iM_allOf iM_allWeight iM_enoughWeight iM_worthSum iM_firstRest iM_leastDrawn), (arI rM_tape kM_tape 900 fM_tape), (arI rM_letters kM_letters 8 f_6301), (arI rM_fresh kM_fresh 287 f_6184), (arI rM_read kM_read 90 f_6185), (arI rM_fresher kM_fresher 8 f_6171)]) hB rfl ht hP hD _ hMs hk1 hFc rfl
                      clear hz1 hk1 hvm ht hB hMs
                      have hG := hG.trans (un6_eq e_x_6296_3)
                      clear hi6_n_6186
                      clear hi8_n_6186
                      refine lv_iload_n hx hb dX7_innerLine_114 rfl (lv_at hl 6 rfl) ?_
                      refine lv_iconst (v := 3) hx hb dX7_innerLine_115 (by decide) ?_
                      refine lv_icmp_ne (tgt := 129) hx hb dX7_innerLine_116 (by decide) (fun c_6302 => ?_) (fun c_6302 => ?_)
                      · skip
                        have hG := hG.trans (if_neg c_6302)
                        have gc_6302 := ti_ne c_6302 rfl kc_3
                        replace gc_6302 : p0.toInt + (-2) ≤ 0 := om_b7ea5ffe gc_6302 hp0.2
                        clear hic
                        refine lv_iconst (v := 0) hx hb dX7_innerLine_129 (by decide) ?_
                        refine lv_istore (lv' := [(6, .int 0), (5, .int x_6208), (4, .int z_6174), (3, .int z_6173), (2, .int x_6172), (0, .ref oM), (1, .int p0)]) hx hb dX7_innerLine_130 hl (by decide) rfl (fun ls hl => ?_)
                        refine lv_aload_n hx hb dX7_innerLine_132 rfl (lv_at hl 5 rfl) ?_
                        refine va_get (D := (dC, dI)) (ci := 7) (v := .int x_6295) (C := RX7) (T := TX7) (N := 48) hx hb hts inX7 hown hK hP 0 rfl rfl 13 (by decide) (hts _ wd_380) (fun _ h9 => h9) rfl dX7_innerLine_133 ?_
                        refine lv_if_eq (tgt := 140) hx hb dX7_innerLine_136 (by decide) (fun c_6303 => ?_) (fun c_6303 => ?_)
                        · skip
                          have hG := hG.trans (if_pos c_6303)
                          have gc_6303 := ti_eq c_6303 rfl kc_0
                          exact ((om_b1155cdc e_x_6293_0 gc_6303)).elim
                        · skip
                          have hG := hG.trans (if_neg c_6303)
                          have gc_6303 := ti_ne c_6303 rfl kc_0
                          replace gc_6303 : (-1) * x_6295.toInt + 1 ≤ 0 := om_e3003f79 gc_6303 b_x_6295.1
                          exact wq_v hx hb hr 0 trivial (fun t ht hW => ⟨x_6296, x_6297, x_6298, x_6299, x_6300, x_6293, x_6294, x_6295, x_6169, f_6301, f_6184, f_6185, f_6171, b_x_6297, b_x_6300, b_x_6295, (om_9348f5ae hi7_n_6186 e_x_6296_0), e_x_6296_1, (om_1fc3dec6 gc_6159 b_x_6295.1), (fun h9 => False.elim (om_92495247 e_x_6293_0 h9.1)), hi2_n_6186, hG, Bw.to hP hD hK ht hW⟩) hS dX7_innerLine_139 hlocks
                      · skip
                        have hG := hG.trans (if_pos c_6302)
                        have gc_6302 := ti_eq c_6302 rfl kc_3
                        have h_6304 : (fM_fresh 8).toInt ≤ 1 := hic ⟨(om_02e9bb08 gc_6159), (om_ce492ef9 hp0.2 gc_6302)⟩
                        clear hic
                        refine lv_aload_n hx hb dX7_innerLine_119 rfl (lv_at hl 5 rfl) ?_
                        refine lv_iconst (v := 1) hx hb dX7_innerLine_120 (by decide) ?_
                        refine lv_bipush (v := 9) hx hb dX7_innerLine_121 (by decide) ?_
                        have hMs := ml_of hD [true, true, true, false, false, false] (wc := [(oc7 oM iM_thrown rM_tape iM_taped iM_size x_6296 x_6297 x_6298 x_6299 x_6300 x_6293 x_6294 iM_trouble rM_letters x_6295 iM_hasCourt rM_r rM_fresh rM_told rM_read rM_st rM_undone rM_kept iM_undos iM_images rM_fresher x_6169 iM_scale iM_night rM_heardRow rM_cutRow iM_breaths iM_cutMany iM_allBreaths rM_trial rM_words iM_fewestBreaths iM_orderMany iM_orderSum iM_leastOrder rM_often iM_setMany iM_someOf iM_allOf iM_allWeight iM_enoughWeight iM_worthSum iM_firstRest iM_leastDrawn), (arI rM_tape kM_tape 900 fM_tape), (arI rM_letters kM_letters 8 f_6301)]) rfl
                        have hFc := va_freeM hD hS hA _ hMs
                        refine va_calli (va_runV (As := [.int 1, .int 9]) (rest := []) ⟨hx, hb, hml, hown, hts⟩ (tX7_number l dC dI _ oM iM_thrown rM_tape fM_tape kM_tape iM_taped iM_size x_6296 x_6297 x_6298 x_6299 x_6300 x_6293 x_6294 iM_trouble rM_letters f_6301 kM_letters x_6295 iM_hasCourt rM_r rM_fresh rM_told rM_read rM_st rM_undone rM_kept iM_undos iM_images rM_fresher x_6169 iM_scale iM_night rM_heardRow rM_cutRow iM_breaths iM_cutMany iM_allBreaths rM_trial rM_words iM_fewestBreaths iM_orderMany iM_orderSum iM_leastOrder rM_often iM_setMany iM_someOf iM_allOf iM_allWeight iM_enoughWeight iM_worthSum iM_firstRest iM_leastDrawn 1 9 b_iM_taped b_iM_size b_x_6297 b_x_6300 b_x_6295 b_iM_hasCourt b_iM_undos b_iM_images b_iM_scale b_iM_breaths b_iM_cutMany e_x_6296_1 (om_dc317686 kc_1 kc_9)) (cwV 2 hts (wd_V wd_446 wd_447 wd_448 wd_5 (wd_c wd_449)) rfl rfl rfl dv_yX7_number_2 ⟨Nat.le_of_ble_eq_true rfl, Nat.le_of_ble_eq_true rfl⟩) ⟨Pw.fb, recvX7 hK hP (q0 := 0) rfl, fun U hU hW => Pw.to (hP.ms _ hMs) (hD.ms _ hMs) (hK.ms [true, true, false, false, false] rfl) hE hS hFc hU hW⟩ rfl rfl hl.1 rfl (lv_room (Nat.le_of_ble_eq_true rfl)) dX7_innerLine_123 ⟨Nat.le_of_ble_eq_true rfl, Nat.le_of_ble_eq_true rfl⟩) hS (fun q _ h => hFc q h) hFc (fun r u t H locs ht hvm hw hB hz1 hk1 hS => ?_)
                        have hru9 := hw.2
                        have hw := hw.1
                        refine ex_9_8 hB (fun x_6305 x_6306 x_6307 x_6308 x_6309 x_6310 x_6311 x_6312 f_6313 b_x_6306 b_x_6309 b_x_6312 e_x_6305_0 e_x_6305_1 e_x_6305_2 e_x_6305_3 e_x_6305_4 hB => ?_)
                        obtain ⟨hP, hD⟩ := Bw.goN (ws' := [(oc7 oM iM_thrown rM_tape iM_taped iM_size x_6305 x_6306 x_6307 x_6308 x_6309 x_6310 x_6311 iM_trouble rM_letters x_6312 iM_hasCourt rM_r rM_fresh rM_told rM_read rM_st rM_undone rM_kept iM_undos iM_images rM_fresher x_6169 iM_scale iM_night rM_heardRow rM_cutRow iM_breaths iM_cutMany iM_allBreaths rM_trial rM_words iM_fewestBreaths iM_orderMany iM_orderSum iM_leastOrder rM_often iM_setMany iM_someOf iM_allOf iM_allWeight iM_enoughWeight iM_worthSum iM_firstRest iM_leastDrawn), (arI rM_tape kM_tape 900 fM_tape), (arI rM_letters kM_letters 8 f_6313), (arI rM_fresh kM_fresh 287 f_6184), (arI rM_read kM_read 90 f_6185), (arI rM_fresher kM_fresher 8 f_6171)]) hB rfl ht hP hD _ hMs hk1 hFc rfl
                        clear hz1 hk1 hvm ht hB hMs
                        rw [← hru9] at e_x_6305_4
                        obtain ⟨x_6314, rfl⟩ : ∃ z, z = r := ⟨_, rfl⟩
                        have hG := hG.trans (un10_eq e_x_6305_4)
                        have lx_6314 := hw.2
                        have kl_1 := kc_1
                        have kl_9 := kc_9
                        clear e_x_6296_1
                        clear e_x_6296_2
                        refine lv_goto (tgt := 130) hx hb dX7_innerLine_126 (by decide) ?_
                        refine lv_istore (lv' := [(6, .int x_6314), (5, .int x_6208), (4, .int z_6174), (3, .int z_6173), (2, .int x_6172), (0, .ref oM), (1, .int p0)]) hx hb dX7_innerLine_130 hl (by decide) rfl (fun ls hl => ?_)
                        refine lv_aload_n hx hb dX7_innerLine_132 rfl (lv_at hl 5 rfl) ?_
                        refine va_get (D := (dC, dI)) (ci := 7) (v := .int x_6312) (C := RX7) (T := TX7) (N := 48) hx hb hts inX7 hown hK hP 0 rfl rfl 13 (by decide) (hts _ wd_380) (fun _ h9 => h9) rfl dX7_innerLine_133 ?_
                        refine lv_if_eq (tgt := 140) hx hb dX7_innerLine_136 (by decide) (fun c_6315 => ?_) (fun c_6315 => ?_)
                        · skip
                          have hG := hG.trans (if_pos c_6315)
                          have gc_6315 := ti_eq c_6315 rfl kc_0
                          exact ((om_2f02dee4 e_x_6293_0 e_x_6305_2 gc_6315)).elim
                        · skip
                          have hG := hG.trans (if_neg c_6315)
                          have gc_6315 := ti_ne c_6315 rfl kc_0
                          replace gc_6315 : (-1) * x_6312.toInt + 1 ≤ 0 := om_e3003f79 gc_6315 b_x_6312.1
                          exact wq_v hx hb hr 0 trivial (fun t ht hW => ⟨x_6305, x_6306, x_6307, x_6308, x_6309, x_6310, x_6311, x_6312, x_6169, f_6313, f_6184, f_6185, f_6171, b_x_6306, b_x_6309, b_x_6312, (om_622f2a87 hi7_n_6186 e_x_6296_0 e_x_6305_0), e_x_6305_1, (om_1fc3dec6 gc_6159 b_x_6312.1), (fun h9 => False.elim (om_a5fe015d gc_6315 h9.1)), hi2_n_6186, hG, Bw.to hP hD hK ht hW⟩) hS dX7_innerLine_139 hlocks
                · skip
                  have hG := hG.trans (if_neg c_6214)
                  have gc_6214 := ti_nle c_6214 rfl rfl
                  refine lv_aload_n hx hb dX7_innerLine_51 rfl (lv_at hl 5 rfl) ?_
                  refine va_get (D := (dC, dI)) (ci := 7) (v := .int z_6210) (C := RX7) (T := TX7) (N := 48) hx hb hts inX7 hown hK hP 0 rfl rfl 13 (by decide) (hts _ wd_380) (fun _ h9 => h9) rfl dX7_innerLine_52 ?_
                  refine lv_if_ne (tgt := 83) hx hb dX7_innerLine_55 (by decide) (fun c_6316 => ?_) (fun c_6316 => ?_)
                  · skip
                    have hG := hG.trans (if_neg c_6316)
                    have gc_6316 := ti_ne c_6316 rfl kc_0
                    replace gc_6316 : (-1) * z_6210.toInt + 1 ≤ 0 := om_e3003f79 gc_6316 b_z_6210.1
                    obtain ⟨x_6317, ex_6317⟩ : ∃ z : Int32, z = z_6209 + Int32.ofInt 1 := ⟨_, rfl⟩
                    have hG := hG.trans (lt_eq ex_6317)
                    have vx_6317 : x_6317.toInt = z_6209.toInt + 1 := ti_add (y := 1) ex_6317 rfl kc_1 (om_4e4fce7e hi0_n_6213.1) (om_d6392c09 hi0_n_6186.2 hi0_n_6213.2)
                    refine lv_iinc (v := x_6317) (lv' := [(6, .int x_6317), (5, .int x_6208), (4, .int z_6174), (3, .int z_6173), (2, .int x_6172), (0, .ref oM), (1, .int p0)]) hx hb dX7_innerLine_83 hl (k := 0) rfl ex_6317.symm (by decide) rfl (fun ls hl => ?_)
                    refine lv_goto (tgt := 45) hx hb dX7_innerLine_86 (by decide) ?_
                    exact ih_n_6213 x_6317 z_6210 z_6211 z_6212 _ _ _ b_z_6210 ⟨(om_83b90de5 hi0_n_6213.1 vx_6317), (om_afcf07ef gc_6214 vx_6317)⟩ hi1_n_6213 (show NeI _ _ _ _ _ from fun h9 i9 hi9 => by by_cases e9 : i9 = z_6209.toNatClampNeg; (rw [e9]; omega); exact hi2_n_6213 (by omega) i9 (by have q1 := ti_cl (x := x_6317) vx_6317 (om_9548a8fd hi0_n_6213.1); have q2 := ti_cl (x := z_6209) rfl hi0_n_6213.1; omega)) (ms_lt hm_n_6213 (om_dd4ae0bc vx_6317) (om_d5382009 gc_6214)) hG hP hD hS (lv_sub hl [0, 1, 2, 3, 4, 5, 6] rfl)
                  · skip
                    have hG := hG.trans (if_pos c_6316)
                    have gc_6316 := ti_eq c_6316 rfl kc_0
                    have h_6318 : 1 ≤ (f_6184 1).toInt := e_x_6205_1 (om_6c480895 hi1_n_6213 gc_6316)
                    clear e_x_6205_1
                    have h_6319 : x_6208.toInt < (f_6184 1).toInt := lx_6208.2.1 h_6318
                    refine lv_aload_n hx hb dX7_innerLine_58 rfl (lv_at hl 5 rfl) ?_
                    refine va_get (D := (dC, dI)) (ci := 7) (v := .ref rM_read) (C := RX7) (T := TX7) (N := 48) hx hb hts inX7 hown hK hP 0 rfl rfl 18 (by decide) (hts _ wd_158) (fun _ h9 => h9) rfl dX7_innerLine_59 ?_
                    refine lv_iconst (v := 4) hx hb dX7_innerLine_62 (by decide) ?_
                    refine lv_iload_n hx hb dX7_innerLine_63 rfl (lv_at hl 4 rfl) ?_
                    refine lv_imul hx hb dX7_innerLine_64 ?_
                    refine lv_topi (fun x_6320 ex_6320 => ?_)
                    have hG := hG.trans (lt_eq ex_6320)
                    have vx_6320 : x_6320.toInt = 4 * x_6172.toInt := ti_mul ex_6320 kc_4 rfl (om_9e6bb6a4 pl_fM_fresh.2.2.2.2.1.1 pl_fM_fresh.2.2.2.2.1.2 cx_6172) (om_7d3cae7d pl_fM_fresh.2.1 pl_fM_fresh.2.2.1.2 pl_fM_fresh.2.2.2.2.2.1.2 cx_6172)
                    refine lv_iload hx hb dX7_innerLine_65 (lv_at hl 0 rfl) ?_
                    refine lv_iadd hx hb dX7_innerLine_67 ?_
                    refine lv_topi (fun x_6321 ex_6321 => ?_)
                    have hG := hG.trans (lt_eq ex_6321)
                    have vx_6321 : x_6321.toInt = 4 * x_6172.toInt + z_6209.toInt := om_5d0caf0f (ti_add ex_6321 vx_6320 rfl (om_80a5d224 pl_fM_fresh.2.2.2.2.1.1 pl_fM_fresh.2.2.2.2.1.2 cx_6172 hi0_n_6213.1) (om_92405955 pl_fM_fresh.2.1 pl_fM_fresh.2.2.1.2 pl_fM_fresh.2.2.2.2.2.1.2 cx_6172 hi0_n_6186.2 hi0_n_6213.2))
                    refine va_iald hx hb hK hP 4 3 rfl rfl (ti_in vx_6321 (om_dcc527d7 pl_fM_fresh.2.2.2.2.1.1 pl_fM_fresh.2.2.2.2.1.2 cx_6172 hi0_n_6213.1) (om_87f3af2a pl_fM_fresh.2.1 pl_fM_fresh.2.2.1.2 pl_fM_fresh.2.2.2.2.2.1.2 cx_6172 hi0_n_6186.2 hi0_n_6213.2)) dX7_innerLine_68 ?_
                    refine lv_topi (fun x_6322 ex_6322 => ?_)
                    have hG := hG.trans (lt_eq ex_6322)
                    have kx_6322 : (f_6185 x_6321.toNatClampNeg).toInt = x_6322.toInt := by rw [ex_6322]
                    have cx_6322 : (f_6185 (4 * x_6172.toNatClampNeg + z_6209.toNatClampNeg)).toInt = x_6322.toInt := by rw [show 4 * x_6172.toNatClampNeg + z_6209.toNatClampNeg = x_6321.toNatClampNeg from (om_4de36627 (ti_cl (x := x_6172) rfl (om_1ab2c227 pl_fM_fresh.2.2.2.2.1.1 pl_fM_fresh.2.2.2.2.1.2 cx_6172)) (ti_cl (x := z_6209) rfl hi0_n_6213.1) (ti_cl (x := x_6321) vx_6321 (om_dcc527d7 pl_fM_fresh.2.2.2.2.1.1 pl_fM_fresh.2.2.2.2.1.2 cx_6172 hi0_n_6213.1)))]; exact kx_6322
                    refine lv_iload hx hb dX7_innerLine_69 (lv_at hl 1 rfl) ?_
                    refine lv_icmp_ne (tgt := 83) hx hb dX7_innerLine_71 (by decide) (fun c_6323 => ?_) (fun c_6323 => ?_)
                    · skip
                      have hG := hG.trans (if_neg c_6323)
                      have gc_6323 := ti_ne c_6323 rfl rfl
                      obtain ⟨x_6324, ex_6324⟩ : ∃ z : Int32, z = z_6209 + Int32.ofInt 1 := ⟨_, rfl⟩
                      have hG := hG.trans (lt_eq ex_6324)
                      have vx_6324 : x_6324.toInt = z_6209.toInt + 1 := ti_add (y := 1) ex_6324 rfl kc_1 (om_4e4fce7e hi0_n_6213.1) (om_d6392c09 hi0_n_6186.2 hi0_n_6213.2)
                      refine lv_iinc (v := x_6324) (lv' := [(6, .int x_6324), (5, .int x_6208), (4, .int z_6174), (3, .int z_6173), (2, .int x_6172), (0, .ref oM), (1, .int p0)]) hx hb dX7_innerLine_83 hl (k := 0) rfl ex_6324.symm (by decide) rfl (fun ls hl => ?_)
                      refine lv_goto (tgt := 45) hx hb dX7_innerLine_86 (by decide) ?_
                      exact ih_n_6213 x_6324 z_6210 z_6211 z_6212 _ _ _ b_z_6210 ⟨(om_83b90de5 hi0_n_6213.1 vx_6324), (om_afcf07ef gc_6214 vx_6324)⟩ hi1_n_6213 (show NeI _ _ _ _ _ from fun h9 i9 hi9 => by by_cases e9 : i9 = z_6209.toNatClampNeg; (rw [e9]; omega); exact hi2_n_6213 (by omega) i9 (by have q1 := ti_cl (x := x_6324) vx_6324 (om_9548a8fd hi0_n_6213.1); have q2 := ti_cl (x := z_6209) rfl hi0_n_6213.1; omega)) (ms_lt hm_n_6213 (om_dd4ae0bc vx_6324) (om_d5382009 gc_6214)) hG hP hD hS (lv_sub hl [0, 1, 2, 3, 4, 5, 6] rfl)
                    · skip
                      have hG := hG.trans (if_pos c_6323)
                      have gc_6323 := ti_eq c_6323 rfl rfl
                      refine lv_aload_n hx hb dX7_innerLine_74 rfl (lv_at hl 5 rfl) ?_
                      refine lv_iconst (v := 3) hx hb dX7_innerLine_75 (by decide) ?_
                      refine lv_aload_n hx hb dX7_innerLine_76 rfl (lv_at hl 5 rfl) ?_
                      refine va_get (D := (dC, dI)) (ci := 7) (v := .int z_6175) (C := RX7) (T := TX7) (N := 48) hx hb hts inX7 hown hK hP 0 rfl rfl 4 (by decide) (hts _ wd_384) (fun _ h9 => h9) rfl dX7_innerLine_77 ?_
                      have hMs := ml_of hD [true, false, false, false, false, false] (wc := [(oc7 oM iM_thrown rM_tape iM_taped iM_size z_6175 z_6176 z_6177 z_6178 z_6179 z_6211 z_6212 iM_trouble rM_letters z_6210 iM_hasCourt rM_r rM_fresh rM_told rM_read rM_st rM_undone rM_kept iM_undos iM_images rM_fresher x_6169 iM_scale iM_night rM_heardRow rM_cutRow iM_breaths iM_cutMany iM_allBreaths rM_trial rM_words iM_fewestBreaths iM_orderMany iM_orderSum iM_leastOrder rM_often iM_setMany iM_someOf iM_allOf iM_allWeight iM_enoughWeight iM_worthSum iM_firstRest iM_leastDrawn)]) rfl
                      have hFc := va_freeM hD hS hA _ hMs
                      refine va_callv (va_runV (As := [.int 3, .int z_6175]) (rest := []) ⟨hx, hb, hml, hown, hts⟩ (tX7_wrong l dC dI _ oM iM_thrown rM_tape iM_taped iM_size z_6175 z_6176 z_6177 z_6178 z_6179 z_6211 z_6212 iM_trouble rM_letters z_6210 iM_hasCourt rM_r rM_fresh rM_told rM_read rM_st rM_undone rM_kept iM_undos iM_images rM_fresher x_6169 iM_scale iM_night rM_heardRow rM_cutRow iM_breaths iM_cutMany iM_allBreaths rM_trial rM_words iM_fewestBreaths iM_orderMany iM_orderSum iM_leastOrder rM_often iM_setMany iM_someOf iM_allOf iM_allWeight iM_enoughWeight iM_worthSum iM_firstRest iM_leastDrawn 3 z_6175 b_iM_taped b_iM_size b_z_6176 b_z_6179 b_z_6210 b_iM_hasCourt b_iM_undos b_iM_images b_iM_scale b_iM_breaths b_iM_cutMany hi6_n_6186) (cwV 2 hts (wd_V wd_430 wd_431 wd_432 wd_5 (wd_c wd_433)) rfl rfl rfl dv_yX7_wrong_2 ⟨Nat.le_of_ble_eq_true rfl, Nat.le_of_ble_eq_true rfl⟩) ⟨Pw.fb, recvX7 hK hP (q0 := 0) rfl, fun U hU hW => Pw.to (hP.ms _ hMs) (hD.ms _ hMs) (hK.ms [false, false, false, false, false] rfl) hE hS hFc hU hW⟩ rfl rfl hl.1 rfl (lv_room (Nat.le_of_ble_eq_true rfl)) dX7_innerLine_80 ⟨Nat.le_of_ble_eq_true rfl, Nat.le_of_ble_eq_true rfl⟩) hS (fun q _ h => hFc q h) hFc (fun u t H locs ht hvm hw hB hz1 hk1 hS => ?_)
                      refine ex_3_3 hB (fun x_6325 x_6326 x_6327 b_x_6327 e_x_6325_0 e_x_6325_1 hB => ?_)
                      obtain ⟨hP, hD⟩ := Bw.goN (ws' := [(oc7 oM iM_thrown rM_tape iM_taped iM_size z_6175 z_6176 z_6177 z_6178 z_6179 x_6325 x_6326 iM_trouble rM_letters x_6327 iM_hasCourt rM_r rM_fresh rM_told rM_read rM_st rM_undone rM_kept iM_undos iM_images rM_fresher x_6169 iM_scale iM_night rM_heardRow rM_cutRow iM_breaths iM_cutMany iM_allBreaths rM_trial rM_words iM_fewestBreaths iM_orderMany iM_orderSum iM_leastOrder rM_often iM_setMany iM_someOf iM_allOf iM_allWeight iM_enoughWeight iM_worthSum iM_firstRest iM_leastDrawn), (arI rM_tape kM_tape 900 fM_tape), (arI rM_letters kM_letters 8 f_6183), (arI rM_fresh kM_fresh 287 f_6184), (arI rM_read kM_read 90 f_6185), (arI rM_fresher kM_fresher 8 f_6171)]) hB rfl ht hP hD _ hMs hk1 hFc rfl
                      clear hz1 hk1 hvm ht hB hMs
                      have hG := hG.trans (un3_eq e_x_6325_1)
                      obtain ⟨x_6328, ex_6328⟩ : ∃ z : Int32, z = z_6209 + Int32.ofInt 1 := ⟨_, rfl⟩
                      have hG := hG.trans (lt_eq ex_6328)
                      have vx_6328 : x_6328.toInt = z_6209.toInt + 1 := ti_add (y := 1) ex_6328 rfl kc_1 (om_4e4fce7e hi0_n_6213.1) (om_d6392c09 hi0_n_6186.2 hi0_n_6213.2)
                      refine lv_iinc (v := x_6328) (lv' := [(6, .int x_6328), (5, .int x_6208), (4, .int z_6174), (3, .int z_6173), (2, .int x_6172), (0, .ref oM), (1, .int p0)]) hx hb dX7_innerLine_83 hl (k := 0) rfl ex_6328.symm (by decide) rfl (fun ls hl => ?_)
                      refine lv_goto (tgt := 45) hx hb dX7_innerLine_86 (by decide) ?_
                      exact ih_n_6213 x_6328 x_6327 x_6325 x_6326 _ _ _ b_x_6327 ⟨(om_83b90de5 hi0_n_6213.1 vx_6328), (om_afcf07ef gc_6214 vx_6328)⟩ (om_00f1c5dd b_x_6207.2 e_x_6325_0) (show NeI _ _ _ _ _ from fun h9 i9 hi9 => by by_cases e9 : i9 = z_6209.toNatClampNeg; (rw [e9]; omega); exact hi2_n_6213 (by omega) i9 (by have q1 := ti_cl (x := x_6328) vx_6328 (om_9548a8fd hi0_n_6213.1); have q2 := ti_cl (x := z_6209) rfl hi0_n_6213.1; omega)) (ms_lt hm_n_6213 (om_dd4ae0bc vx_6328) (om_d5382009 gc_6214)) hG hP hD hS (lv_sub hl [0, 1, 2, 3, 4, 5, 6] rfl)
            exact key_n_6213 (((z_6173.toInt - (0 : Int32).toInt).toNat) + 1) 0 x_6207 x_6205 x_6206 _ _ _ b_x_6207 ⟨(om_b1de7dbe kc_0), (om_2dfe280d hi0_n_6186.1 kc_0)⟩ om_1cb5f934 (show NeI _ _ _ _ _ from fun _ i9 hi9 => absurd hi9 (Nat.not_lt_zero i9)) (Nat.lt_add_one _) hG hP hD hS hl
    exact key_n_6186 (((4 - (0 : Int32).toInt).toNat) + 1) 0 1 x_6161 x_6162 x_6163 x_6164 x_6165 x_6166 x_6167 x_6168 f_6170 fM_fresh fM_read _ _ _ b_x_6162 b_x_6165 b_x_6168 ⟨(om_b1de7dbe kc_0), (om_bebe011a kc_0)⟩ ⟨(om_1b364b1c kc_1), (om_02032f93 kc_1)⟩ (by assumption) in_zero ⟨rfl, rfl, rfl⟩ (fun h9 => by have q0 := kc_0; have q1 := kc_1; omega) e_x_6161_1 e_x_6161_0 (fun h9 => by have q0 := kc_0; have q1 := kc_1; have q9 := e_x_6161_3 (by omega); omega) (Nat.lt_add_one _) hG hP hD hS hl
  · skip
    have hG := hG.trans (if_neg c_6159)
    have gc_6159 := ti_ne c_6159 rfl kc_0
    replace gc_6159 : (-1) * iM_failed.toInt + 1 ≤ 0 := om_e3003f79 gc_6159 b_iM_failed.1
    clear hil
    clear hic
    exact wq_v hx hb hr 0 trivial (fun t ht hW => ⟨iM_at, iM_end, iM_token, iM_whole, iM_nameSize, iM_fault, iM_place, iM_failed, iM_fresherSize, fM_letters, fM_fresh, fM_read, fM_fresher, ⟨b_iM_end.1, b_iM_end.2⟩, ⟨b_iM_nameSize.1, b_iM_nameSize.2⟩, ⟨b_iM_failed.1, b_iM_failed.2⟩, om_1cb5f934, r_T, om_1cb5f934, (fun h9 => False.elim (om_a5fe015d gc_6159 h9.1)), r_P, hG, Bw.to hP hD hK ht hW⟩) hS dX7_innerLine_7 hlocks
