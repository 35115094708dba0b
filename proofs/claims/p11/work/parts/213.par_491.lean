set_option maxHeartbeats 4000000 in
set_option maxRecDepth 100000 in
theorem tX7_innerLine (l : Launch) (dC : Nat → ClassId) (dI : Nat → Nat → Nat) (sz : Nat) (oM : Nat) (iM_thrown : Int32) (rM_tape : Nat) (fM_tape : Nat → Int32) (kM_tape : ClassId) (iM_taped : Int32) (iM_size : Int32) (iM_at : Int32) (iM_end : Int32) (iM_token : Int32) (iM_whole : Int32) (iM_nameSize : Int32) (iM_fault : Int32) (iM_place : Int32) (iM_trouble : Int32) (rM_letters : Nat) (fM_letters : Nat → Int32) (kM_letters : ClassId) (iM_failed : Int32) (iM_hasCourt : Int32) (rM_r : Nat) (rM_fresh : Nat) (fM_fresh : Nat → Int32) (kM_fresh : ClassId) (rM_told : Nat) (rM_read : Nat) (fM_read : Nat → Int32) (kM_read : ClassId) (rM_st : Nat) (rM_undone : Nat) (rM_kept : Nat) (iM_undos : Int32) (iM_images : Int32) (rM_fresher : Nat) (fM_fresher : Nat → Int32) (kM_fresher : ClassId) (iM_fresherSize : Int32) (iM_scale : Int32) (iM_night : Int32) (rM_heardRow : Nat) (rM_cutRow : Nat) (iM_breaths : Int32) (iM_cutMany : Int32) (iM_allBreaths : Int32) (rM_trial : Nat) (rM_words : Nat) (iM_fewestBreaths : Int32) (iM_orderMany : Int32) (iM_orderSum : Int32) (iM_leastOrder : Int32) (rM_often : Nat) (iM_setMany : Int32) (iM_someOf : Int32) (iM_allOf : Int32) (iM_allWeight : Int64) (iM_enoughWeight : Int64) (iM_worthSum : Int64) (iM_firstRest : Int32) (iM_leastDrawn : Int32) (p0 : Int32) (b_iM_taped : 0 ≤ iM_taped.toInt ∧ iM_taped.toInt ≤ 900) (b_iM_size : 0 ≤ iM_size.toInt ∧ iM_size.toInt ≤ 900) (b_iM_end : 0 ≤ iM_end.toInt ∧ iM_end.toInt ≤ 900) (b_iM_nameSize : 0 ≤ iM_nameSize.toInt ∧ iM_nameSize.toInt ≤ 900) (b_iM_failed : 0 ≤ iM_failed.toInt ∧ iM_failed.toInt ≤ 1) (b_iM_hasCourt : 0 ≤ iM_hasCourt.toInt ∧ iM_hasCourt.toInt ≤ 1) (b_iM_undos : 0 ≤ iM_undos.toInt ∧ iM_undos.toInt ≤ 16) (b_iM_images : 0 ≤ iM_images.toInt ∧ iM_images.toInt ≤ 3) (b_iM_scale : 1 ≤ iM_scale.toInt ∧ iM_scale.toInt ≤ 1296) (b_iM_breaths : 0 ≤ iM_breaths.toInt ∧ iM_breaths.toInt ≤ 399) (b_iM_cutMany : 0 ≤ iM_cutMany.toInt ∧ iM_cutMany.toInt ≤ 399) (r_T : ImpP (iM_token.toInt = 2) (iM_nameSize.toInt ≤ 8)) (r_P : POk fM_fresh fM_read) (hp0 : 1 ≤ p0.toInt ∧ p0.toInt ≤ 3) (hil : ImpP (iM_failed.toInt ≤ 0) ((fM_fresh 7).toInt ≤ 7)) (hic : ImpP (iM_failed.toInt ≤ 0 ∧ p0.toInt = 3) ((fM_fresh 8).toInt ≤ 1)) : Met l yX7_innerLine (Cond.code yX7_innerLine cX7_innerLine 7 none :: wG) ({ frames := 7, cells := 0, slots := 0, locals := 175 }) (va_Pc [.ref oM, .int p0] (Pw dC dI sz [(oc7 oM iM_thrown rM_tape iM_taped iM_size iM_at iM_end iM_token iM_whole iM_nameSize iM_fault iM_place iM_trouble rM_letters iM_failed iM_hasCourt rM_r rM_fresh rM_told rM_read rM_st rM_undone rM_kept iM_undos iM_images rM_fresher iM_fresherSize iM_scale iM_night rM_heardRow rM_cutRow iM_breaths iM_cutMany iM_allBreaths rM_trial rM_words iM_fewestBreaths iM_orderMany iM_orderSum iM_leastOrder rM_often iM_setMany iM_someOf iM_allOf iM_allWeight iM_enoughWeight iM_worthSum iM_firstRest iM_leastDrawn), (arI rM_tape kM_tape 900 fM_tape), (arI rM_letters kM_letters 8 fM_letters), (arI rM_fresh kM_fresh 287 fM_fresh), (arI rM_read kM_read 90 fM_read), (arI rM_fresher kM_fresher 8 fM_fresher)] [(kM_tape, .int), (kM_letters, .int), (kM_fresh, .int), (kM_read, .int), (kM_fresher, .int)])) (va_Qv (fun (_ : Nat) => True) (fun (_ : Nat) (t : State) => ∃ (niM_at : Int32) (niM_end : Int32) (niM_token : Int32) (niM_whole : Int32) (niM_nameSize : Int32) (niM_fault : Int32) (niM_place : Int32) (niM_failed : Int32) (niM_fresherSize : Int32) (nfM_letters : Nat → Int32) (nfM_fresh : Nat → Int32) (nfM_read : Nat → Int32) (nfM_fresher : Nat → Int32), (0 ≤ niM_end.toInt ∧ niM_end.toInt ≤ 900) ∧ (0 ≤ niM_nameSize.toInt ∧ niM_nameSize.toInt ≤ 900) ∧ (0 ≤ niM_failed.toInt ∧ niM_failed.toInt ≤ 1) ∧ (iM_end.toInt ≤ niM_end.toInt) ∧ (ImpP (niM_token.toInt = 2) (niM_nameSize.toInt ≤ 8)) ∧ (iM_failed.toInt ≤ niM_failed.toInt) ∧ (ImpP (niM_failed.toInt ≤ 0 ∧ niM_token.toInt = 59 ) (iM_end.toInt + 1 ≤ niM_end.toInt)) ∧ (POk nfM_fresh nfM_read) ∧ (PX7_innerLine fM_tape iM_size iM_at iM_end iM_token iM_whole iM_nameSize iM_fault iM_place fM_letters iM_failed fM_fresh fM_read fM_fresher iM_fresherSize p0 = (niM_at, niM_end, niM_token, niM_whole, niM_nameSize, niM_fault, niM_place, niM_failed, niM_fresherSize, nfM_letters, nfM_fresh, nfM_read, nfM_fresher)) ∧ Bw dC dI (va_A [(oc7 oM iM_thrown rM_tape iM_taped iM_size iM_at iM_end iM_token iM_whole iM_nameSize iM_fault iM_place iM_trouble rM_letters iM_failed iM_hasCourt rM_r rM_fresh rM_told rM_read rM_st rM_undone rM_kept iM_undos iM_images rM_fresher iM_fresherSize iM_scale iM_night rM_heardRow rM_cutRow iM_breaths iM_cutMany iM_allBreaths rM_trial rM_words iM_fewestBreaths iM_orderMany iM_orderSum iM_leastOrder rM_often iM_setMany iM_someOf iM_allOf iM_allWeight iM_enoughWeight iM_worthSum iM_firstRest iM_leastDrawn), (arI rM_tape kM_tape 900 fM_tape), (arI rM_letters kM_letters 8 fM_letters), (arI rM_fresh kM_fresh 287 fM_fresh), (arI rM_read kM_read 90 fM_read), (arI rM_fresher kM_fresher 8 fM_fresher)] sz) [(oc7 oM iM_thrown rM_tape iM_taped iM_size niM_at niM_end niM_token niM_whole niM_nameSize niM_fault niM_place iM_trouble rM_letters niM_failed iM_hasCourt rM_r rM_fresh rM_told rM_read rM_st rM_undone rM_kept iM_undos iM_images rM_fresher niM_fresherSize iM_scale iM_night rM_heardRow rM_cutRow iM_breaths iM_cutMany iM_allBreaths rM_trial rM_words iM_fewestBreaths iM_orderMany iM_orderSum iM_leastOrder rM_often iM_setMany iM_someOf iM_allOf iM_allWeight iM_enoughWeight iM_worthSum iM_firstRest iM_leastDrawn), (arI rM_tape kM_tape 900 fM_tape), (arI rM_letters kM_letters 8 nfM_letters), (arI rM_fresh kM_fresh 287 nfM_fresh), (arI rM_read kM_read 90 nfM_read), (arI rM_fresher kM_fresher 8 nfM_fresher)] [(kM_tape, .int), (kM_letters, .int), (kM_fresh, .int), (kM_read, .int), (kM_fresher, .int)] t) (va_A [(oc7 oM iM_thrown rM_tape iM_taped iM_size iM_at iM_end iM_token iM_whole iM_nameSize iM_fault iM_place iM_trouble rM_letters iM_failed iM_hasCourt rM_r rM_fresh rM_told rM_read rM_st rM_undone rM_kept iM_undos iM_images rM_fresher iM_fresherSize iM_scale iM_night rM_heardRow rM_cutRow iM_breaths iM_cutMany iM_allBreaths rM_trial rM_words iM_fewestBreaths iM_orderMany iM_orderSum iM_leastOrder rM_often iM_setMany iM_someOf iM_allOf iM_allWeight iM_enoughWeight iM_worthSum iM_firstRest iM_leastDrawn), (arI rM_tape kM_tape 900 fM_tape), (arI rM_letters kM_letters 8 fM_letters), (arI rM_fresh kM_fresh 287 fM_fresh), (arI rM_read kM_read 90 fM_read), (arI rM_fresher kM_fresher 8 fM_fresher)] sz)) 0 0 (va_A [(oc7 oM iM_thrown rM_tape iM_taped iM_size iM_at iM_end iM_token iM_whole iM_nameSize iM_fault iM_place iM_trouble rM_letters iM_failed iM_hasCourt rM_r rM_fresh rM_told rM_read rM_st rM_undone rM_kept iM_undos iM_images rM_fresher iM_fresherSize iM_scale iM_night rM_heardRow rM_cutRow iM_breaths iM_cutMany iM_allBreaths rM_trial rM_words iM_fewestBreaths iM_orderMany iM_orderSum iM_leastOrder rM_often iM_setMany iM_someOf iM_allOf iM_allWeight iM_enoughWeight iM_worthSum iM_firstRest iM_leastDrawn), (arI rM_tape kM_tape 900 fM_tape), (arI rM_letters kM_letters 8 fM_letters), (arI rM_fresh kM_fresh 287 fM_fresh), (arI rM_read kM_read 90 fM_read), (arI rM_fresher kM_fresher 8 fM_fresher)] sz) := by
  refine Met.ofW (cc := cX7_innerLine) (maxL := 7) (ret := none) pnX7 rfl ?_
  intro p e s m args below meth c s₁ B hml hv
  obtain ⟨rfl, hsz, hP, hK, hD0, hE⟩ := hv
  have hx := B.exec
  have hb := B.bytes
  have hr := B.returns
  have hts : ∀ w ∈ wG, w.before ([.ref oM, .int p0] : List Value).toArray s = true := fun w h => atoms_spec (ws := Cond.code yX7_innerLine cX7_innerLine 7 none :: wG) B.pre w (List.mem_cons_of_mem _ h)
  have hown : s.vm.findClass RX7 = some m.cls := own_of B.named rfl
  have hlocks := B.notSynchronized
  subst hsz
  have hD := hD0.self (sz := s.heap.size)
  generalize hAe : va_A [(oc7 oM iM_thrown rM_tape iM_taped iM_size iM_at iM_end iM_token iM_whole iM_nameSize iM_fault iM_place iM_trouble rM_letters iM_failed iM_hasCourt rM_r rM_fresh rM_told rM_read rM_st rM_undone rM_kept iM_undos iM_images rM_fresher iM_fresherSize iM_scale iM_night rM_heardRow rM_cutRow iM_breaths iM_cutMany iM_allBreaths rM_trial rM_words iM_fewestBreaths iM_orderMany iM_orderSum iM_leastOrder rM_often iM_setMany iM_someOf iM_allOf iM_allWeight iM_enoughWeight iM_worthSum iM_firstRest iM_leastDrawn), (arI rM_tape kM_tape 900 fM_tape), (arI rM_letters kM_letters 8 fM_letters), (arI rM_fresh kM_fresh 287 fM_fresh), (arI rM_read kM_read 90 fM_read), (arI rM_fresher kM_fresher 8 fM_fresher)] s.heap.size = A at hD hE ⊢
  have hA : ∀ q : Nat, s.heap.size ≤ q → A q := fun q h => by rw [← hAe]; exact Or.inr h
  have hS : va_S A s.heap s.heap [] := va_S.rf
  have hl := lv_entry ([.ref oM, .int p0]) (n := 7) (Nat.le_of_ble_eq_true rfl)
  rw [lg_entry_eq]
  generalize (lg_sl ([.ref oM, .int p0]) ++ List.replicate (7 - (lg_sl ([.ref oM, .int p0])).length) Slot.unset).toArray = ls at hl ⊢
  have hl : lv_has ls 7 [(0, .ref oM), (1, .int p0)] := hl
  have hG := PX7_innerLine_eq fM_tape iM_size iM_at iM_end iM_token iM_whole iM_nameSize iM_fault iM_place fM_letters iM_failed fM_fresh fM_read fM_fresher iM_fresherSize p0
  have pl_fM_fresh := r_P.lins
  refine lv_aload_n hx hb dX7_innerLine_0 rfl (lv_at hl 0 rfl) ?_
  refine va_get (D := (dC, dI)) (ci := 7) (v := .int iM_failed) (C := RX7) (T := TX7) (N := 48) hx hb hts inX7 hown hK hP 0 rfl rfl 13 (by decide) (hts _ wd_380) (fun _ h9 => h9) rfl dX7_innerLine_1 ?_
  refine lv_if_eq (tgt := 8) hx hb dX7_innerLine_4 (by decide) (fun c_6157 => ?_) (fun c_6157 => ?_)
  · skip
    have hG := hG.trans (if_pos c_6157)
    have gc_6157 := ti_eq c_6157 rfl kc_0
    have h_6158 : (fM_fresh 7).toInt ≤ 7 := hil (om_02e9bb08 gc_6157)
    clear hil
    refine lv_aload_n hx hb dX7_innerLine_8 rfl (lv_at hl 0 rfl) ?_
    have hFc := va_freeI hD hS hA
    refine va_callv (va_runV (As := []) (rest := []) ⟨hx, hb, hml, hown, hts⟩ (tX7_newName l dC dI _ oM iM_thrown rM_tape fM_tape kM_tape iM_taped iM_size iM_at iM_end iM_token iM_whole iM_nameSize iM_fault iM_place iM_trouble rM_letters fM_letters kM_letters iM_failed iM_hasCourt rM_r rM_fresh fM_fresh kM_fresh rM_told rM_read fM_read kM_read rM_st rM_undone rM_kept iM_undos iM_images rM_fresher fM_fresher kM_fresher iM_fresherSize iM_scale iM_night rM_heardRow rM_cutRow iM_breaths iM_cutMany iM_allBreaths rM_trial rM_words iM_fewestBreaths iM_orderMany iM_orderSum iM_leastOrder rM_often iM_setMany iM_someOf iM_allOf iM_allWeight iM_enoughWeight iM_worthSum iM_firstRest iM_leastDrawn b_iM_taped b_iM_size b_iM_end b_iM_nameSize b_iM_failed b_iM_hasCourt b_iM_undos b_iM_images b_iM_scale b_iM_breaths b_iM_cutMany r_T r_P) (cwV 0 hts (wd_V wd_462 wd_463 wd_464 wd_5 (wd_c wd_465)) rfl rfl rfl dv_yX7_newName_0 ⟨Nat.le_of_ble_eq_true rfl, Nat.le_of_ble_eq_true rfl⟩) ⟨Pw.fb, recvX7 hK hP (q0 := 0) rfl, fun U hU hW => Pw.to hP hD hK hE hS hFc hU hW⟩ rfl rfl hl.1 rfl (lv_room (Nat.le_of_ble_eq_true rfl)) dX7_innerLine_9 ⟨Nat.le_of_ble_eq_true rfl, Nat.le_of_ble_eq_true rfl⟩) hS (fun q _ h => hFc q h) hFc (fun u t H locs ht hvm hw hB hz1 hk1 hS => ?_)
    refine ex_11_8 hB (fun x_6159 x_6160 x_6161 x_6162 x_6163 x_6164 x_6165 x_6166 x_6167 f_6168 f_6169 b_x_6160 b_x_6163 b_x_6166 e_x_6159_0 e_x_6159_1 e_x_6159_2 e_x_6159_3 e_x_6159_4 hB => ?_)
    obtain ⟨hP, hD⟩ := Bw.goA (ws' := [(oc7 oM iM_thrown rM_tape iM_taped iM_size x_6159 x_6160 x_6161 x_6162 x_6163 x_6164 x_6165 iM_trouble rM_letters x_6166 iM_hasCourt rM_r rM_fresh rM_told rM_read rM_st rM_undone rM_kept iM_undos iM_images rM_fresher x_6167 iM_scale iM_night rM_heardRow rM_cutRow iM_breaths iM_cutMany iM_allBreaths rM_trial rM_words iM_fewestBreaths iM_orderMany iM_orderSum iM_leastOrder rM_often iM_setMany iM_someOf iM_allOf iM_allWeight iM_enoughWeight iM_worthSum iM_firstRest iM_leastDrawn), (arI rM_tape kM_tape 900 fM_tape), (arI rM_letters kM_letters 8 f_6168), (arI rM_fresh kM_fresh 287 fM_fresh), (arI rM_read kM_read 90 fM_read), (arI rM_fresher kM_fresher 8 f_6169)]) hB rfl ht hFc rfl
    clear hz1 hk1 hvm ht hB
    have hG := hG.trans (un11_eq e_x_6159_4)
    clear r_T
    refine lv_aload_n hx hb dX7_innerLine_12 rfl (lv_at hl 0 rfl) ?_
    refine va_get (D := (dC, dI)) (ci := 7) (v := .ref rM_fresh) (C := RX7) (T := TX7) (N := 48) hx hb hts inX7 hown hK hP 0 rfl rfl 16 (by decide) (hts _ wd_156) (fun _ h9 => h9) rfl dX7_innerLine_13 ?_
    refine lv_iconst (v := 1) hx hb dX7_innerLine_16 (by decide) ?_
    refine va_iald hx hb hK hP 3 2 rfl rfl (by unfold vp_in; decide) dX7_innerLine_17 ?_
    refine lv_topi (fun x_6170 ex_6170 => ?_)
    have hG := hG.trans (lt_eq ex_6170)
    have cx_6170 : (fM_fresh 1).toInt = x_6170.toInt := congrArg Int32.toInt (show fM_fresh 1 = x_6170 from ex_6170.symm)
    refine lv_istore_n (lv' := [(2, .int x_6170), (0, .ref oM), (1, .int p0)]) hx hb dX7_innerLine_18 rfl hl (by decide) rfl (fun ls hl => ?_)
    refine lv_iconst (v := 0) hx hb dX7_innerLine_19 (by decide) ?_
    refine lv_istore_n (lv' := [(3, .int 0), (2, .int x_6170), (0, .ref oM), (1, .int p0)]) hx hb dX7_innerLine_20 rfl hl (by decide) rfl (fun ls hl => ?_)
    refine lv_iconst (v := 1) hx hb dX7_innerLine_21 (by decide) ?_
    refine lv_istore (lv' := [(4, .int 1), (3, .int 0), (2, .int x_6170), (0, .ref oM), (1, .int p0)]) hx hb dX7_innerLine_22 hl (by decide) rfl (fun ls hl => ?_)
    have hl := lv_sub hl (l' := [(4, .int 1), (3, .int 0), (2, .int x_6170), (0, .ref oM), (1, .int p0)]) [0, 1, 2, 3, 4] rfl
    have key_n_6184 : ∀ (n_6184 : Nat) (z_6171 : Int32) (z_6172 : Int32) (z_6173 : Int32) (z_6174 : Int32) (z_6175 : Int32) (z_6176 : Int32) (z_6177 : Int32) (z_6178 : Int32) (z_6179 : Int32) (z_6180 : Int32) (f_6181 : Nat → Int32) (f_6182 : Nat → Int32) (f_6183 : Nat → Int32) (H : Heap) (locs : List Loc) (ls : Array Slot), (0 ≤ z_6174.toInt ∧ z_6174.toInt ≤ 900) → (0 ≤ z_6177.toInt ∧ z_6177.toInt ≤ 900) → (0 ≤ z_6180.toInt ∧ z_6180.toInt ≤ 1) → (0 ≤ z_6171.toInt ∧ z_6171.toInt ≤ 4) → (0 ≤ z_6172.toInt ∧ z_6172.toInt ≤ 1) → (POk f_6182 f_6183) → (InOk f_6182 f_6183 (f_6182 1).toNatClampNeg z_6171.toNatClampNeg p0.toInt) → ((f_6182 1).toInt = (fM_fresh 1).toInt ∧ (f_6182 7).toInt = (fM_fresh 7).toInt ∧ (f_6182 8).toInt = (fM_fresh 8).toInt) → (ImpP (z_6172.toInt ≤ 0) (1 ≤ z_6171.toInt)) → (ImpP (z_6175.toInt = 2) (z_6177.toInt ≤ 8)) → (iM_end.toInt ≤ z_6174.toInt) → (ImpP (z_6180.toInt ≤ 0 ∧ z_6175.toInt = 59 ) (iM_end.toInt + 1 ≤ z_6174.toInt)) → (4 - z_6171.toInt).toNat < n_6184 → (PX7_innerLine fM_tape iM_size iM_at iM_end iM_token iM_whole iM_nameSize iM_fault iM_place fM_letters iM_failed fM_fresh fM_read fM_fresher iM_fresherSize p0 = HX7_innerLine_0 fM_tape iM_size p0 x_6167 f_6169 x_6170 n_6184 z_6171 z_6172 z_6173 z_6174 z_6175 z_6176 z_6177 z_6178 z_6179 z_6180 f_6181 f_6182 f_6183) → va_P (dC, dI) vwCl [(oc7 oM iM_thrown rM_tape iM_taped iM_size z_6173 z_6174 z_6175 z_6176 z_6177 z_6178 z_6179 iM_trouble rM_letters z_6180 iM_hasCourt rM_r rM_fresh rM_told rM_read rM_st rM_undone rM_kept iM_undos iM_images rM_fresher x_6167 iM_scale iM_night rM_heardRow rM_cutRow iM_breaths iM_cutMany iM_allBreaths rM_trial rM_words iM_fewestBreaths iM_orderMany iM_orderSum iM_leastOrder rM_often iM_setMany iM_someOf iM_allOf iM_allWeight iM_enoughWeight iM_worthSum iM_firstRest iM_leastDrawn), (arI rM_tape kM_tape 900 fM_tape), (arI rM_letters kM_letters 8 f_6181), (arI rM_fresh kM_fresh 287 f_6182), (arI rM_read kM_read 90 f_6183), (arI rM_fresher kM_fresher 8 f_6169)] H → va_D A [(oc7 oM iM_thrown rM_tape iM_taped iM_size z_6173 z_6174 z_6175 z_6176 z_6177 z_6178 z_6179 iM_trouble rM_letters z_6180 iM_hasCourt rM_r rM_fresh rM_told rM_read rM_st rM_undone rM_kept iM_undos iM_images rM_fresher x_6167 iM_scale iM_night rM_heardRow rM_cutRow iM_breaths iM_cutMany iM_allBreaths rM_trial rM_words iM_fewestBreaths iM_orderMany iM_orderSum iM_leastOrder rM_often iM_setMany iM_someOf iM_allOf iM_allWeight iM_enoughWeight iM_worthSum iM_firstRest iM_leastDrawn), (arI rM_tape kM_tape 900 fM_tape), (arI rM_letters kM_letters 8 f_6181), (arI rM_fresh kM_fresh 287 f_6182), (arI rM_read kM_read 90 f_6183), (arI rM_fresher kM_fresher 8 f_6169)] → va_S A s.heap H locs → lv_has ls 7 [(4, .int z_6172), (3, .int z_6171), (2, .int x_6170), (0, .ref oM), (1, .int p0)] → W p l e (headSpec (Cond.code yX7_innerLine cX7_innerLine 7 none :: wG) ({ frames := 7, cells := 0, slots := 0, locals := 175 })).room s m ([.ref oM, .int p0] : List Value).toArray below meth c H locs 0 0 (MQ below (va_Qv (fun (_ : Nat) => True) (fun (_ : Nat) (t : State) => ∃ (niM_at : Int32) (niM_end : Int32) (niM_token : Int32) (niM_whole : Int32) (niM_nameSize : Int32) (niM_fault : Int32) (niM_place : Int32) (niM_failed : Int32) (niM_fresherSize : Int32) (nfM_letters : Nat → Int32) (nfM_fresh : Nat → Int32) (nfM_read : Nat → Int32) (nfM_fresher : Nat → Int32), (0 ≤ niM_end.toInt ∧ niM_end.toInt ≤ 900) ∧ (0 ≤ niM_nameSize.toInt ∧ niM_nameSize.toInt ≤ 900) ∧ (0 ≤ niM_failed.toInt ∧ niM_failed.toInt ≤ 1) ∧ (iM_end.toInt ≤ niM_end.toInt) ∧ (ImpP (niM_token.toInt = 2) (niM_nameSize.toInt ≤ 8)) ∧ (iM_failed.toInt ≤ niM_failed.toInt) ∧ (ImpP (niM_failed.toInt ≤ 0 ∧ niM_token.toInt = 59 ) (iM_end.toInt + 1 ≤ niM_end.toInt)) ∧ (POk nfM_fresh nfM_read) ∧ (PX7_innerLine fM_tape iM_size iM_at iM_end iM_token iM_whole iM_nameSize iM_fault iM_place fM_letters iM_failed fM_fresh fM_read fM_fresher iM_fresherSize p0 = (niM_at, niM_end, niM_token, niM_whole, niM_nameSize, niM_fault, niM_place, niM_failed, niM_fresherSize, nfM_letters, nfM_fresh, nfM_read, nfM_fresher)) ∧ Bw dC dI A [(oc7 oM iM_thrown rM_tape iM_taped iM_size niM_at niM_end niM_token niM_whole niM_nameSize niM_fault niM_place iM_trouble rM_letters niM_failed iM_hasCourt rM_r rM_fresh rM_told rM_read rM_st rM_undone rM_kept iM_undos iM_images rM_fresher niM_fresherSize iM_scale iM_night rM_heardRow rM_cutRow iM_breaths iM_cutMany iM_allBreaths rM_trial rM_words iM_fewestBreaths iM_orderMany iM_orderSum iM_leastOrder rM_often iM_setMany iM_someOf iM_allOf iM_allWeight iM_enoughWeight iM_worthSum iM_firstRest iM_leastDrawn), (arI rM_tape kM_tape 900 fM_tape), (arI rM_letters kM_letters 8 nfM_letters), (arI rM_fresh kM_fresh 287 nfM_fresh), (arI rM_read kM_read 90 nfM_read), (arI rM_fresher kM_fresher 8 nfM_fresher)] [(kM_tape, .int), (kM_letters, .int), (kM_fresh, .int), (kM_read, .int), (kM_fresher, .int)] t) A) ([.ref oM, .int p0] : List Value).toArray s 0 0 A) (F0 m 24 ls []) := by
      intro n_6184
      induction n_6184 with
      | zero => intro z_6171 z_6172 z_6173 z_6174 z_6175 z_6176 z_6177 z_6178 z_6179 z_6180 f_6181 f_6182 f_6183 H locs ls b_z_6174 b_z_6177 b_z_6180 hi0_n_6184 hi1_n_6184 hi2_n_6184 hi3_n_6184 hi4_n_6184 hi5_n_6184 hi6_n_6184 hi7_n_6184 hi8_n_6184 hm; exact absurd hm (Nat.not_lt_zero _)
      | succ n_6184 ih_n_6184 =>
        intro z_6171 z_6172 z_6173 z_6174 z_6175 z_6176 z_6177 z_6178 z_6179 z_6180 f_6181 f_6182 f_6183 H locs ls b_z_6174 b_z_6177 b_z_6180 hi0_n_6184 hi1_n_6184 hi2_n_6184 hi3_n_6184 hi4_n_6184 hi5_n_6184 hi6_n_6184 hi7_n_6184 hi8_n_6184 hm_n_6184 hG hP hD hS hl
        have hG := hG.trans (HX7_innerLine_0_eq _ _ _ _ _ _ _ _ _ _ _ _ _ _ _ _ _ _ _ _)
        have pl_f_6182 := hi2_n_6184.lins
        refine lv_iload hx hb dX7_innerLine_24 (lv_at hl 0 rfl) ?_
        refine lv_if_eq (tgt := 198) hx hb dX7_innerLine_26 (by decide) (fun c_6185 => ?_) (fun c_6185 => ?_)
        · skip
          have hG := hG.trans (if_pos c_6185)
          have gc_6185 := ti_eq c_6185 rfl kc_0
          have h_6186 : 1 ≤ z_6171.toInt := hi5_n_6184 (om_02e9bb08 gc_6185)
          clear hi5_n_6184
          refine lv_aload_n hx hb dX7_innerLine_198 rfl (lv_at hl 3 rfl) ?_
          refine va_get (D := (dC, dI)) (ci := 7) (v := .int z_6180) (C := RX7) (T := TX7) (N := 48) hx hb hts inX7 hown hK hP 0 rfl rfl 13 (by decide) (hts _ wd_380) (fun _ h9 => h9) rfl dX7_innerLine_199 ?_
          refine lv_if_eq (tgt := 206) hx hb dX7_innerLine_202 (by decide) (fun c_6187 => ?_) (fun c_6187 => ?_)
          · skip
            have hG := hG.trans (if_pos c_6187)
            have gc_6187 := ti_eq c_6187 rfl kc_0
            refine lv_aload_n hx hb dX7_innerLine_206 rfl (lv_at hl 3 rfl) ?_
            refine va_get (D := (dC, dI)) (ci := 7) (v := .ref rM_fresh) (C := RX7) (T := TX7) (N := 48) hx hb hts inX7 hown hK hP 0 rfl rfl 16 (by decide) (hts _ wd_156) (fun _ h9 => h9) rfl dX7_innerLine_207 ?_
            refine lv_bipush (v := 27) hx hb dX7_innerLine_210 (by decide) ?_
            refine lv_iload_n hx hb dX7_innerLine_212 rfl (lv_at hl 2 rfl) ?_
            refine lv_iadd hx hb dX7_innerLine_213 ?_
            refine lv_topi (fun x_6188 ex_6188 => ?_)
            have hG := hG.trans (lt_eq ex_6188)
            have vx_6188 : x_6188.toInt = x_6170.toInt + 27 := om_6c48219a (ti_add ex_6188 kc_27 rfl (om_41e8b5f2 pl_fM_fresh.2.2.2.2.1.1 pl_fM_fresh.2.2.2.2.1.2 cx_6170) (om_2e953c3d pl_fM_fresh.2.1 pl_fM_fresh.2.2.1.2 pl_fM_fresh.2.2.2.2.2.1.2 cx_6170))
            refine lv_iload_n hx hb dX7_innerLine_214 rfl (lv_at hl 1 rfl) ?_
            refine va_iast hx hb hK hP hD hS 3 2 rfl rfl (ti_in vx_6188 (om_88805813 pl_fM_fresh.2.2.2.2.1.1 pl_fM_fresh.2.2.2.2.1.2 cx_6170) (om_400ea2f3 pl_fM_fresh.2.1 pl_fM_fresh.2.2.1.2 pl_fM_fresh.2.2.2.2.2.1.2 cx_6170)) dX7_innerLine_215 (fun H locs hP hD hS => ?_)
            obtain ⟨f_6189, ef_6189⟩ : ∃ g : Nat → Int32, g = upd f_6182 x_6188.toNatClampNeg z_6171 := ⟨_, rfl⟩
            rw [← ef_6189] at hP hD
            have hG := hG.trans (lt_eq ef_6189)
            obtain ⟨hP, hD⟩ := wl2 (ws' := [(oc7 oM iM_thrown rM_tape iM_taped iM_size z_6173 z_6174 z_6175 z_6176 z_6177 z_6178 z_6179 iM_trouble rM_letters z_6180 iM_hasCourt rM_r rM_fresh rM_told rM_read rM_st rM_undone rM_kept iM_undos iM_images rM_fresher x_6167 iM_scale iM_night rM_heardRow rM_cutRow iM_breaths iM_cutMany iM_allBreaths rM_trial rM_words iM_fewestBreaths iM_orderMany iM_orderSum iM_leastOrder rM_often iM_setMany iM_someOf iM_allOf iM_allWeight iM_enoughWeight iM_worthSum iM_firstRest iM_leastDrawn), (arI rM_tape kM_tape 900 fM_tape), (arI rM_letters kM_letters 8 f_6181), (arI rM_fresh kM_fresh 287 f_6189), (arI rM_read kM_read 90 f_6183), (arI rM_fresher kM_fresher 8 f_6169)]) hP hD rfl
            have o1_f_6189 : (f_6189 1).toInt = (f_6182 1).toInt := put_at ef_6189 (Nat.ne_of_lt (om_748d98c6 (ti_cl (x := x_6188) vx_6188 (om_88805813 pl_fM_fresh.2.2.2.2.1.1 pl_fM_fresh.2.2.2.2.1.2 cx_6170)) pl_fM_fresh.2.2.2.2.1.1 pl_fM_fresh.2.2.2.2.1.2 cx_6170))
            have o7_f_6189 : (f_6189 7).toInt = (f_6182 7).toInt := put_at ef_6189 (Nat.ne_of_lt (om_62246ba3 (ti_cl (x := x_6188) vx_6188 (om_88805813 pl_fM_fresh.2.2.2.2.1.1 pl_fM_fresh.2.2.2.2.1.2 cx_6170)) pl_fM_fresh.2.2.2.2.1.1 pl_fM_fresh.2.2.2.2.1.2 cx_6170))
            have o8_f_6189 : (f_6189 8).toInt = (f_6182 8).toInt := put_at ef_6189 (Nat.ne_of_lt (om_4d313e7b (ti_cl (x := x_6188) vx_6188 (om_88805813 pl_fM_fresh.2.2.2.2.1.1 pl_fM_fresh.2.2.2.2.1.2 cx_6170)) pl_fM_fresh.2.2.2.2.1.1 pl_fM_fresh.2.2.2.2.1.2 cx_6170))
            refine lv_aload_n hx hb dX7_innerLine_216 rfl (lv_at hl 3 rfl) ?_
            refine lv_iload_n hx hb dX7_innerLine_217 rfl (lv_at hl 4 rfl) ?_
            have hMs := ml_of hD [true, false, false, true, false, true] (wc := [(oc7 oM iM_thrown rM_tape iM_taped iM_size z_6173 z_6174 z_6175 z_6176 z_6177 z_6178 z_6179 iM_trouble rM_letters z_6180 iM_hasCourt rM_r rM_fresh rM_told rM_read rM_st rM_undone rM_kept iM_undos iM_images rM_fresher x_6167 iM_scale iM_night rM_heardRow rM_cutRow iM_breaths iM_cutMany iM_allBreaths rM_trial rM_words iM_fewestBreaths iM_orderMany iM_orderSum iM_leastOrder rM_often iM_setMany iM_someOf iM_allOf iM_allWeight iM_enoughWeight iM_worthSum iM_firstRest iM_leastDrawn), (arI rM_fresh kM_fresh 287 f_6189), (arI rM_fresher kM_fresher 8 f_6169)]) rfl
            have hFc := va_freeM hD hS hA _ hMs
            refine va_callv (va_runV (As := [.int p0]) (rest := []) ⟨hx, hb, hml, hown, hts⟩ (tX7_lay l dC dI _ oM iM_thrown rM_tape iM_taped iM_size z_6173 z_6174 z_6175 z_6176 z_6177 z_6178 z_6179 iM_trouble rM_letters z_6180 iM_hasCourt rM_r rM_fresh f_6189 kM_fresh rM_told rM_read rM_st rM_undone rM_kept iM_undos iM_images rM_fresher f_6169 kM_fresher x_6167 iM_scale iM_night rM_heardRow rM_cutRow iM_breaths iM_cutMany iM_allBreaths rM_trial rM_words iM_fewestBreaths iM_orderMany iM_orderSum iM_leastOrder rM_often iM_setMany iM_someOf iM_allOf iM_allWeight iM_enoughWeight iM_worthSum iM_firstRest iM_leastDrawn p0 b_iM_taped b_iM_size b_z_6174 b_z_6177 b_z_6180 b_iM_hasCourt b_iM_undos b_iM_images b_iM_scale b_iM_breaths b_iM_cutMany hi6_n_6184 (om_02e9bb08 gc_6187) ⟨(om_a12d6474 pl_f_6182.2.2.2.2.1.1 pl_f_6182.2.2.2.2.1.2 o1_f_6189), (om_10e45097 pl_fM_fresh.2.1 pl_fM_fresh.2.2.1.2 h_6158 hi4_n_6184.1 o1_f_6189)⟩) (cwV 1 hts (wd_V wd_478 wd_479 wd_480 wd_5 (wd_c wd_481)) rfl rfl rfl dv_yX7_lay_1 ⟨Nat.le_of_ble_eq_true rfl, Nat.le_of_ble_eq_true rfl⟩) ⟨Pw.fb, recvX7 hK hP (q0 := 0) rfl, fun U hU hW => Pw.to (hP.ms _ hMs) (hD.ms _ hMs) (hK.ms [false, false, true, false, true] rfl) hE hS hFc hU hW⟩ rfl rfl hl.1 rfl (lv_room (Nat.le_of_ble_eq_true rfl)) dX7_innerLine_218 ⟨Nat.le_of_ble_eq_true rfl, Nat.le_of_ble_eq_true rfl⟩) hS (fun q _ h => hFc q h) hFc (fun u t H locs ht hvm hw hB hz1 hk1 hS => ?_)
            refine ex_1_2 hB (fun f_6190 e_f_6190_0 e_f_6190_1 hB => ?_)
            obtain ⟨hP, hD⟩ := Bw.goN (ws' := [(oc7 oM iM_thrown rM_tape iM_taped iM_size z_6173 z_6174 z_6175 z_6176 z_6177 z_6178 z_6179 iM_trouble rM_letters z_6180 iM_hasCourt rM_r rM_fresh rM_told rM_read rM_st rM_undone rM_kept iM_undos iM_images rM_fresher x_6167 iM_scale iM_night rM_heardRow rM_cutRow iM_breaths iM_cutMany iM_allBreaths rM_trial rM_words iM_fewestBreaths iM_orderMany iM_orderSum iM_leastOrder rM_often iM_setMany iM_someOf iM_allOf iM_allWeight iM_enoughWeight iM_worthSum iM_firstRest iM_leastDrawn), (arI rM_tape kM_tape 900 fM_tape), (arI rM_letters kM_letters 8 f_6181), (arI rM_fresh kM_fresh 287 f_6190), (arI rM_read kM_read 90 f_6183), (arI rM_fresher kM_fresher 8 f_6169)]) hB rfl ht hP hD _ hMs hk1 hFc rfl
            clear hz1 hk1 hvm ht hB hMs
            have o2_f_6190 : (f_6190 2).toInt = (f_6189 2).toInt := by rw [(e_f_6190_0).2.2.1 2 (by decide) (by decide) (Nat.ne_of_lt (Nat.lt_of_lt_of_le (by decide) (Nat.le_add_right 9 _)))]
            have o7_f_6190 : (f_6190 7).toInt = (f_6189 7).toInt := by rw [(e_f_6190_0).2.2.1 7 (by decide) (by decide) (Nat.ne_of_lt (Nat.lt_of_lt_of_le (by decide) (Nat.le_add_right 9 _)))]
            have o8_f_6190 : (f_6190 8).toInt = (f_6189 8).toInt := by rw [(e_f_6190_0).2.2.1 8 (by decide) (by decide) (Nat.ne_of_lt (Nat.lt_of_lt_of_le (by decide) (Nat.le_add_right 9 _)))]
            have hG := hG.trans (lt_eq e_f_6190_1.symm)
            refine lv_aload_n hx hb dX7_innerLine_221 rfl (lv_at hl 3 rfl) ?_
            refine va_get (D := (dC, dI)) (ci := 7) (v := .ref rM_fresh) (C := RX7) (T := TX7) (N := 48) hx hb hts inX7 hown hK hP 0 rfl rfl 16 (by decide) (hts _ wd_156) (fun _ h9 => h9) rfl dX7_innerLine_222 ?_
            refine lv_bipush (v := 7) hx hb dX7_innerLine_225 (by decide) ?_
            refine lv_dup2_11 hx hb dX7_innerLine_227 rfl rfl ?_
            refine va_iald hx hb hK hP 3 2 rfl rfl (by unfold vp_in; decide) dX7_innerLine_228 ?_
            refine lv_topi (fun x_6191 ex_6191 => ?_)
            have hG := hG.trans (lt_eq ex_6191)
            have cx_6191 : (f_6190 7).toInt = x_6191.toInt := congrArg Int32.toInt (show f_6190 7 = x_6191 from ex_6191.symm)
            refine lv_iconst (v := 1) hx hb dX7_innerLine_229 (by decide) ?_
            refine lv_iadd hx hb dX7_innerLine_230 ?_
            refine lv_topi (fun x_6192 ex_6192 => ?_)
            have hG := hG.trans (lt_eq ex_6192)
            have vx_6192 : x_6192.toInt = x_6191.toInt + 1 := ti_add ex_6192 rfl kc_1 (om_5f3e4666 pl_f_6182.2.2.2.2.2.1.1 o7_f_6189 o7_f_6190 cx_6191) (om_ac8e3760 pl_f_6182.2.2.2.2.2.1.2 o7_f_6189 o7_f_6190 cx_6191)
            refine va_iast hx hb hK hP hD hS 3 2 rfl rfl (by unfold vp_in; decide) dX7_innerLine_231 (fun H locs hP hD hS => ?_)
            obtain ⟨f_6193, ef_6193⟩ : ∃ g : Nat → Int32, g = upd f_6190 (7 : Int32).toNatClampNeg x_6192 := ⟨_, rfl⟩
            rw [← ef_6193] at hP hD
            have hG := hG.trans (lt_eq ef_6193)
            obtain ⟨hP, hD⟩ := wl2 (ws' := [(oc7 oM iM_thrown rM_tape iM_taped iM_size z_6173 z_6174 z_6175 z_6176 z_6177 z_6178 z_6179 iM_trouble rM_letters z_6180 iM_hasCourt rM_r rM_fresh rM_told rM_read rM_st rM_undone rM_kept iM_undos iM_images rM_fresher x_6167 iM_scale iM_night rM_heardRow rM_cutRow iM_breaths iM_cutMany iM_allBreaths rM_trial rM_words iM_fewestBreaths iM_orderMany iM_orderSum iM_leastOrder rM_often iM_setMany iM_someOf iM_allOf iM_allWeight iM_enoughWeight iM_worthSum iM_firstRest iM_leastDrawn), (arI rM_tape kM_tape 900 fM_tape), (arI rM_letters kM_letters 8 f_6181), (arI rM_fresh kM_fresh 287 f_6193), (arI rM_read kM_read 90 f_6183), (arI rM_fresher kM_fresher 8 f_6169)]) hP hD rfl
            have o8_f_6193 : (f_6193 8).toInt = (f_6190 8).toInt := put_at ef_6193 (by decide)
            refine lv_aload_n hx hb dX7_innerLine_232 rfl (lv_at hl 3 rfl) ?_
            refine va_get (D := (dC, dI)) (ci := 7) (v := .ref rM_fresh) (C := RX7) (T := TX7) (N := 48) hx hb hts inX7 hown hK hP 0 rfl rfl 16 (by decide) (hts _ wd_156) (fun _ h9 => h9) rfl dX7_innerLine_233 ?_
            refine lv_bipush (v := 8) hx hb dX7_innerLine_236 (by decide) ?_
            refine lv_dup2_11 hx hb dX7_innerLine_238 rfl rfl ?_
            refine va_iald hx hb hK hP 3 2 rfl rfl (by unfold vp_in; decide) dX7_innerLine_239 ?_
            refine lv_topi (fun x_6194 ex_6194 => ?_)
            have hG := hG.trans (lt_eq ex_6194)
            have cx_6194 : (f_6193 8).toInt = x_6194.toInt := congrArg Int32.toInt (show f_6193 8 = x_6194 from ex_6194.symm)
            refine lv_iload_n hx hb dX7_innerLine_240 rfl (lv_at hl 4 rfl) ?_
            refine lv_iconst (v := 3) hx hb dX7_innerLine_241 (by decide) ?_
            refine lv_icmp_ne (tgt := 249) hx hb dX7_innerLine_242 (by decide) (fun c_6195 => ?_) (fun c_6195 => ?_)
            · skip
              have hG := hG.trans (if_neg c_6195)
              have gc_6195 := ti_ne c_6195 rfl kc_3
              replace gc_6195 : p0.toInt + (-2) ≤ 0 := om_b7ea5ffe gc_6195 hp0.2
              clear hic
              refine lv_iconst (v := 0) hx hb dX7_innerLine_249 (by decide) ?_
              refine lv_iadd hx hb dX7_innerLine_250 ?_
              refine lv_topi (fun x_6196 ex_6196 => ?_)
              have hG := hG.trans (lt_eq ex_6196)
              have vx_6196 : x_6196.toInt = x_6194.toInt := om_75165550 (ti_add ex_6196 rfl kc_0 (om_5483085b pl_f_6182.2.2.2.2.2.2.1 o8_f_6189 o8_f_6190 o8_f_6193 cx_6194) (om_2ab9c540 pl_f_6182.2.2.2.2.2.2.2 o8_f_6189 o8_f_6190 o8_f_6193 cx_6194))
              refine va_iast hx hb hK hP hD hS 3 2 rfl rfl (by unfold vp_in; decide) dX7_innerLine_251 (fun H locs hP hD hS => ?_)
              obtain ⟨f_6197, ef_6197⟩ : ∃ g : Nat → Int32, g = upd f_6193 (8 : Int32).toNatClampNeg x_6196 := ⟨_, rfl⟩
              rw [← ef_6197] at hP hD
              have hG := hG.trans (lt_eq ef_6197)
              obtain ⟨hP, hD⟩ := wl2 (ws' := [(oc7 oM iM_thrown rM_tape iM_taped iM_size z_6173 z_6174 z_6175 z_6176 z_6177 z_6178 z_6179 iM_trouble rM_letters z_6180 iM_hasCourt rM_r rM_fresh rM_told rM_read rM_st rM_undone rM_kept iM_undos iM_images rM_fresher x_6167 iM_scale iM_night rM_heardRow rM_cutRow iM_breaths iM_cutMany iM_allBreaths rM_trial rM_words iM_fewestBreaths iM_orderMany iM_orderSum iM_leastOrder rM_often iM_setMany iM_someOf iM_allOf iM_allWeight iM_enoughWeight iM_worthSum iM_firstRest iM_leastDrawn), (arI rM_tape kM_tape 900 fM_tape), (arI rM_letters kM_letters 8 f_6181), (arI rM_fresh kM_fresh 287 f_6197), (arI rM_read kM_read 90 f_6183), (arI rM_fresher kM_fresher 8 f_6169)]) hP hD rfl
              have pk_f_6197 : POk f_6197 f_6183 := POk.inner (f := f_6182) (m := z_6171.toNatClampNeg) hi2_n_6184 ef_6189 (by have q9 := ti_cl (x := x_6188) vx_6188 (om_88805813 pl_fM_fresh.2.2.2.2.1.1 pl_fM_fresh.2.2.2.2.1.2 cx_6170); have q2 := ti_cl (x := f_6182 1) rfl (by omega); omega) (by have q3 := ti_cl (x := z_6171) rfl hi0_n_6184.1; omega) (by have q3 := ti_cl (x := z_6171) rfl hi0_n_6184.1; omega) (by have q3 := ti_cl (x := z_6171) rfl hi0_n_6184.1; omega) e_f_6190_0 (by omega) ef_6193 rfl (by have q := vx_6192; omega) ef_6197 rfl (by have q := vx_6196; have q0 := kc_0; have q1 := kc_1; first | (rw [if_pos (by omega)]; omega) | (rw [if_neg (by omega)]; omega)) (by omega) (fun h9 => by omega) hi3_n_6184
              have pl_f_6197 := pk_f_6197.lins
              exact wq_v hx hb hr 0 trivial (fun t ht hW => ⟨z_6173, z_6174, z_6175, z_6176, z_6177, z_6178, z_6179, z_6180, x_6167, f_6181, f_6197, f_6183, f_6169, b_z_6174, b_z_6177, b_z_6180, hi7_n_6184, hi6_n_6184, (om_1fc3dec6 gc_6157 b_z_6180.1), hi8_n_6184, pk_f_6197, hG, Bw.to hP hD hK ht hW⟩) hS dX7_innerLine_252 hlocks
            · skip
              have hG := hG.trans (if_pos c_6195)
              have gc_6195 := ti_eq c_6195 rfl kc_3
              have h_6198 : (fM_fresh 8).toInt ≤ 1 := hic ⟨(om_02e9bb08 gc_6157), (om_ce492ef9 hp0.2 gc_6195)⟩
              clear hic
              refine lv_iconst (v := 1) hx hb dX7_innerLine_245 (by decide) ?_
              refine lv_goto (tgt := 250) hx hb dX7_innerLine_246 (by decide) ?_
              refine lv_iadd hx hb dX7_innerLine_250 ?_
              refine lv_topi (fun x_6199 ex_6199 => ?_)
              have hG := hG.trans (lt_eq ex_6199)
              have vx_6199 : x_6199.toInt = x_6194.toInt + 1 := ti_add ex_6199 rfl kc_1 (om_d0c17b76 pl_f_6182.2.2.2.2.2.2.1 o8_f_6189 o8_f_6190 o8_f_6193 cx_6194) (om_387097be pl_f_6182.2.2.2.2.2.2.2 o8_f_6189 o8_f_6190 o8_f_6193 cx_6194)
              refine va_iast hx hb hK hP hD hS 3 2 rfl rfl (by unfold vp_in; decide) dX7_innerLine_251 (fun H locs hP hD hS => ?_)
              obtain ⟨f_6200, ef_6200⟩ : ∃ g : Nat → Int32, g = upd f_6193 (8 : Int32).toNatClampNeg x_6199 := ⟨_, rfl⟩
              rw [← ef_6200] at hP hD
              have hG := hG.trans (lt_eq ef_6200)
              obtain ⟨hP, hD⟩ := wl2 (ws' := [(oc7 oM iM_thrown rM_tape iM_taped iM_size z_6173 z_6174 z_6175 z_6176 z_6177 z_6178 z_6179 iM_trouble rM_letters z_6180 iM_hasCourt rM_r rM_fresh rM_told rM_read rM_st rM_undone rM_kept iM_undos iM_images rM_fresher x_6167 iM_scale iM_night rM_heardRow rM_cutRow iM_breaths iM_cutMany iM_allBreaths rM_trial rM_words iM_fewestBreaths iM_orderMany iM_orderSum iM_leastOrder rM_often iM_setMany iM_someOf iM_allOf iM_allWeight iM_enoughWeight iM_worthSum iM_firstRest iM_leastDrawn), (arI rM_tape kM_tape 900 fM_tape), (arI rM_letters kM_letters 8 f_6181), (arI rM_fresh kM_fresh 287 f_6200), (arI rM_read kM_read 90 f_6183), (arI rM_fresher kM_fresher 8 f_6169)]) hP hD rfl
              have pk_f_6200 : POk f_6200 f_6183 := POk.inner (f := f_6182) (m := z_6171.toNatClampNeg) hi2_n_6184 ef_6189 (by have q9 := ti_cl (x := x_6188) vx_6188 (om_88805813 pl_fM_fresh.2.2.2.2.1.1 pl_fM_fresh.2.2.2.2.1.2 cx_6170); have q2 := ti_cl (x := f_6182 1) rfl (by omega); omega) (by have q3 := ti_cl (x := z_6171) rfl hi0_n_6184.1; omega) (by have q3 := ti_cl (x := z_6171) rfl hi0_n_6184.1; omega) (by have q3 := ti_cl (x := z_6171) rfl hi0_n_6184.1; omega) e_f_6190_0 (by omega) ef_6193 rfl (by have q := vx_6192; omega) ef_6200 rfl (by have q := vx_6199; have q0 := kc_0; have q1 := kc_1; first | (rw [if_pos (by omega)]; omega) | (rw [if_neg (by omega)]; omega)) (by omega) (fun h9 => by omega) hi3_n_6184
              have pl_f_6200 := pk_f_6200.lins
              exact wq_v hx hb hr 0 trivial (fun t ht hW => ⟨z_6173, z_6174, z_6175, z_6176, z_6177, z_6178, z_6179, z_6180, x_6167, f_6181, f_6200, f_6183, f_6169, b_z_6174, b_z_6177, b_z_6180, hi7_n_6184, hi6_n_6184, (om_1fc3dec6 gc_6157 b_z_6180.1), hi8_n_6184, pk_f_6200, hG, Bw.to hP hD hK ht hW⟩) hS dX7_innerLine_252 hlocks
          · skip
            have hG := hG.trans (if_neg c_6187)
            have gc_6187 := ti_ne c_6187 rfl kc_0
            replace gc_6187 : (-1) * z_6180.toInt + 1 ≤ 0 := om_e3003f79 gc_6187 b_z_6180.1
            exact wq_v hx hb hr 0 trivial (fun t ht hW => ⟨z_6173, z_6174, z_6175, z_6176, z_6177, z_6178, z_6179, z_6180, x_6167, f_6181, f_6182, f_6183, f_6169, b_z_6174, b_z_6177, b_z_6180, hi7_n_6184, hi6_n_6184, (om_1fc3dec6 gc_6157 b_z_6180.1), hi8_n_6184, hi2_n_6184, hG, Bw.to hP hD hK ht hW⟩) hS dX7_innerLine_205 hlocks
        · skip
          have hG := hG.trans (if_neg c_6185)
          have gc_6185 := ti_ne c_6185 rfl kc_0
          replace gc_6185 : (-1) * z_6172.toInt + 1 ≤ 0 := om_e3003f79 gc_6185 hi1_n_6184.1
          clear hi5_n_6184
          refine lv_aload_n hx hb dX7_innerLine_29 rfl (lv_at hl 3 rfl) ?_
          refine va_get (D := (dC, dI)) (ci := 7) (v := .int z_6180) (C := RX7) (T := TX7) (N := 48) hx hb hts inX7 hown hK hP 0 rfl rfl 13 (by decide) (hts _ wd_380) (fun _ h9 => h9) rfl dX7_innerLine_30 ?_
          refine lv_if_ne (tgt := 198) hx hb dX7_innerLine_33 (by decide) (fun c_6201 => ?_) (fun c_6201 => ?_)
          · skip
            have hG := hG.trans (if_neg c_6201)
            have gc_6201 := ti_ne c_6201 rfl kc_0
            replace gc_6201 : (-1) * z_6180.toInt + 1 ≤ 0 := om_e3003f79 gc_6201 b_z_6180.1
            refine lv_aload_n hx hb dX7_innerLine_198 rfl (lv_at hl 3 rfl) ?_
            refine va_get (D := (dC, dI)) (ci := 7) (v := .int z_6180) (C := RX7) (T := TX7) (N := 48) hx hb hts inX7 hown hK hP 0 rfl rfl 13 (by decide) (hts _ wd_380) (fun _ h9 => h9) rfl dX7_innerLine_199 ?_
            refine lv_if_eq (tgt := 206) hx hb dX7_innerLine_202 (by decide) (fun c_6202 => ?_) (fun c_6202 => ?_)
            · skip
              have hG := hG.trans (if_pos c_6202)
              have gc_6202 := ti_eq c_6202 rfl kc_0
              exact ((om_77e4ddb5 gc_6201 gc_6202)).elim
            · skip
              have hG := hG.trans (if_neg c_6202)
              have gc_6202 := ti_ne c_6202 rfl kc_0
              replace gc_6202 : (-1) * z_6180.toInt + 1 ≤ 0 := om_e3003f79 gc_6202 b_z_6180.1
              exact wq_v hx hb hr 0 trivial (fun t ht hW => ⟨z_6173, z_6174, z_6175, z_6176, z_6177, z_6178, z_6179, z_6180, x_6167, f_6181, f_6182, f_6183, f_6169, b_z_6174, b_z_6177, b_z_6180, hi7_n_6184, hi6_n_6184, (om_1fc3dec6 gc_6157 b_z_6180.1), hi8_n_6184, hi2_n_6184, hG, Bw.to hP hD hK ht hW⟩) hS dX7_innerLine_205 hlocks
          · skip
            have hG := hG.trans (if_pos c_6201)
            have gc_6201 := ti_eq c_6201 rfl kc_0
            refine lv_aload_n hx hb dX7_innerLine_36 rfl (lv_at hl 3 rfl) ?_
            have hMs := ml_of hD [true, false, true, true, true, false] (wc := [(oc7 oM iM_thrown rM_tape iM_taped iM_size z_6173 z_6174 z_6175 z_6176 z_6177 z_6178 z_6179 iM_trouble rM_letters z_6180 iM_hasCourt rM_r rM_fresh rM_told rM_read rM_st rM_undone rM_kept iM_undos iM_images rM_fresher x_6167 iM_scale iM_night rM_heardRow rM_cutRow iM_breaths iM_cutMany iM_allBreaths rM_trial rM_words iM_fewestBreaths iM_orderMany iM_orderSum iM_leastOrder rM_often iM_setMany iM_someOf iM_allOf iM_allWeight iM_enoughWeight iM_worthSum iM_firstRest iM_leastDrawn), (arI rM_letters kM_letters 8 f_6181), (arI rM_fresh kM_fresh 287 f_6182), (arI rM_read kM_read 90 f_6183)]) rfl
            have hFc := va_freeM hD hS hA _ hMs
            refine va_calli (va_runV (As := []) (rest := []) ⟨hx, hb, hml, hown, hts⟩ (tX7_nodeHere l dC dI _ oM iM_thrown rM_tape iM_taped iM_size z_6173 z_6174 z_6175 z_6176 z_6177 z_6178 z_6179 iM_trouble rM_letters f_6181 kM_letters z_6180 iM_hasCourt rM_r rM_fresh f_6182 kM_fresh rM_told rM_read f_6183 kM_read rM_st rM_undone rM_kept iM_undos iM_images rM_fresher x_6167 iM_scale iM_night rM_heardRow rM_cutRow iM_breaths iM_cutMany iM_allBreaths rM_trial rM_words iM_fewestBreaths iM_orderMany iM_orderSum iM_leastOrder rM_often iM_setMany iM_someOf iM_allOf iM_allWeight iM_enoughWeight iM_worthSum iM_firstRest iM_leastDrawn b_iM_taped b_iM_size b_z_6174 b_z_6177 b_z_6180 b_iM_hasCourt b_iM_undos b_iM_images b_iM_scale b_iM_breaths b_iM_cutMany hi6_n_6184 hi2_n_6184) (cwV 0 hts (wd_V wd_486 wd_487 wd_488 wd_5 (wd_c wd_489)) rfl rfl rfl dv_yX7_nodeHere_0 ⟨Nat.le_of_ble_eq_true rfl, Nat.le_of_ble_eq_true rfl⟩) ⟨Pw.fb, recvX7 hK hP (q0 := 0) rfl, fun U hU hW => Pw.to (hP.ms _ hMs) (hD.ms _ hMs) (hK.ms [false, true, true, true, false] rfl) hE hS hFc hU hW⟩ rfl rfl hl.1 rfl (lv_room (Nat.le_of_ble_eq_true rfl)) dX7_innerLine_37 ⟨Nat.le_of_ble_eq_true rfl, Nat.le_of_ble_eq_true rfl⟩) hS (fun q _ h => hFc q h) hFc (fun r u t H locs ht hvm hw hB hz1 hk1 hS => ?_)
            have hru9 := hw.2
            have hw := hw.1
            refine ex_3_4 hB (fun x_6203 x_6204 x_6205 b_x_6205 e_x_6203_0 e_x_6203_1 e_x_6203_2 hB => ?_)
            obtain ⟨hP, hD⟩ := Bw.goN (ws' := [(oc7 oM iM_thrown rM_tape iM_taped iM_size z_6173 z_6174 z_6175 z_6176 z_6177 x_6203 x_6204 iM_trouble rM_letters x_6205 iM_hasCourt rM_r rM_fresh rM_told rM_read rM_st rM_undone rM_kept iM_undos iM_images rM_fresher x_6167 iM_scale iM_night rM_heardRow rM_cutRow iM_breaths iM_cutMany iM_allBreaths rM_trial rM_words iM_fewestBreaths iM_orderMany iM_orderSum iM_leastOrder rM_often iM_setMany iM_someOf iM_allOf iM_allWeight iM_enoughWeight iM_worthSum iM_firstRest iM_leastDrawn), (arI rM_tape kM_tape 900 fM_tape), (arI rM_letters kM_letters 8 f_6181), (arI rM_fresh kM_fresh 287 f_6182), (arI rM_read kM_read 90 f_6183), (arI rM_fresher kM_fresher 8 f_6169)]) hB rfl ht hP hD _ hMs hk1 hFc rfl
            clear hz1 hk1 hvm ht hB hMs
            rw [← hru9] at e_x_6203_2
            obtain ⟨x_6206, rfl⟩ : ∃ z, z = r := ⟨_, rfl⟩
            have hG := hG.trans (un4_eq e_x_6203_2)
            have lx_6206 := hw.2
            have ux_6206 := hw.2
            refine lv_istore (lv' := [(5, .int x_6206), (4, .int z_6172), (3, .int z_6171), (2, .int x_6170), (0, .ref oM), (1, .int p0)]) hx hb dX7_innerLine_40 hl (by decide) rfl (fun ls hl => ?_)
            refine lv_iconst (v := 0) hx hb dX7_innerLine_42 (by decide) ?_
            refine lv_istore (lv' := [(6, .int 0), (5, .int x_6206), (4, .int z_6172), (3, .int z_6171), (2, .int x_6170), (0, .ref oM), (1, .int p0)]) hx hb dX7_innerLine_43 hl (by decide) rfl (fun ls hl => ?_)
            have hl := lv_sub hl (l' := [(6, .int 0), (5, .int x_6206), (4, .int z_6172), (3, .int z_6171), (2, .int x_6170), (0, .ref oM), (1, .int p0)]) [0, 1, 2, 3, 4, 5, 6] rfl
            have key_n_6211 : ∀ (n_6211 : Nat) (z_6207 : Int32) (z_6208 : Int32) (z_6209 : Int32) (z_6210 : Int32) (H : Heap) (locs : List Loc) (ls : Array Slot), (0 ≤ z_6208.toInt ∧ z_6208.toInt ≤ 1) → (0 ≤ z_6207.toInt ∧ z_6207.toInt ≤ z_6171.toInt) → (x_6205.toInt ≤ z_6208.toInt) → (NeI z_6208.toInt z_6207.toNatClampNeg f_6183 x_6170.toNatClampNeg x_6206.toInt) → (z_6171.toInt - z_6207.toInt).toNat < n_6211 → (PX7_innerLine fM_tape iM_size iM_at iM_end iM_token iM_whole iM_nameSize iM_fault iM_place fM_letters iM_failed fM_fresh fM_read fM_fresher iM_fresherSize p0 = HX7_innerLine_1 fM_tape iM_size p0 x_6167 f_6169 x_6170 z_6171 z_6173 z_6174 z_6175 z_6176 z_6177 f_6181 f_6182 f_6183 x_6206 (fun (z_6171 : Int32) (z_6172 : Int32) (z_6173 : Int32) (z_6174 : Int32) (z_6175 : Int32) (z_6176 : Int32) (z_6177 : Int32) (z_6178 : Int32) (z_6179 : Int32) (z_6180 : Int32) (f_6181 : Nat → Int32) (f_6182 : Nat → Int32) (f_6183 : Nat → Int32) => HX7_innerLine_0 fM_tape iM_size p0 x_6167 f_6169 x_6170 n_6184 z_6171 z_6172 z_6173 z_6174 z_6175 z_6176 z_6177 z_6178 z_6179 z_6180 f_6181 f_6182 f_6183) n_6211 z_6207 z_6208 z_6209 z_6210) → va_P (dC, dI) vwCl [(oc7 oM iM_thrown rM_tape iM_taped iM_size z_6173 z_6174 z_6175 z_6176 z_6177 z_6209 z_6210 iM_trouble rM_letters z_6208 iM_hasCourt rM_r rM_fresh rM_told rM_read rM_st rM_undone rM_kept iM_undos iM_images rM_fresher x_6167 iM_scale iM_night rM_heardRow rM_cutRow iM_breaths iM_cutMany iM_allBreaths rM_trial rM_words iM_fewestBreaths iM_orderMany iM_orderSum iM_leastOrder rM_often iM_setMany iM_someOf iM_allOf iM_allWeight iM_enoughWeight iM_worthSum iM_firstRest iM_leastDrawn), (arI rM_tape kM_tape 900 fM_tape), (arI rM_letters kM_letters 8 f_6181), (arI rM_fresh kM_fresh 287 f_6182), (arI rM_read kM_read 90 f_6183), (arI rM_fresher kM_fresher 8 f_6169)] H → va_D A [(oc7 oM iM_thrown rM_tape iM_taped iM_size z_6173 z_6174 z_6175 z_6176 z_6177 z_6209 z_6210 iM_trouble rM_letters z_6208 iM_hasCourt rM_r rM_fresh rM_told rM_read rM_st rM_undone rM_kept iM_undos iM_images rM_fresher x_6167 iM_scale iM_night rM_heardRow rM_cutRow iM_breaths iM_cutMany iM_allBreaths rM_trial rM_words iM_fewestBreaths iM_orderMany iM_orderSum iM_leastOrder rM_often iM_setMany iM_someOf iM_allOf iM_allWeight iM_enoughWeight iM_worthSum iM_firstRest iM_leastDrawn), (arI rM_tape kM_tape 900 fM_tape), (arI rM_letters kM_letters 8 f_6181), (arI rM_fresh kM_fresh 287 f_6182), (arI rM_read kM_read 90 f_6183), (arI rM_fresher kM_fresher 8 f_6169)] → va_S A s.heap H locs → lv_has ls 7 [(6, .int z_6207), (5, .int x_6206), (4, .int z_6172), (3, .int z_6171), (2, .int x_6170), (0, .ref oM), (1, .int p0)] → W p l e (headSpec (Cond.code yX7_innerLine cX7_innerLine 7 none :: wG) ({ frames := 7, cells := 0, slots := 0, locals := 175 })).room s m ([.ref oM, .int p0] : List Value).toArray below meth c H locs 0 0 (MQ below (va_Qv (fun (_ : Nat) => True) (fun (_ : Nat) (t : State) => ∃ (niM_at : Int32) (niM_end : Int32) (niM_token : Int32) (niM_whole : Int32) (niM_nameSize : Int32) (niM_fault : Int32) (niM_place : Int32) (niM_failed : Int32) (niM_fresherSize : Int32) (nfM_letters : Nat → Int32) (nfM_fresh : Nat → Int32) (nfM_read : Nat → Int32) (nfM_fresher : Nat → Int32), (0 ≤ niM_end.toInt ∧ niM_end.toInt ≤ 900) ∧ (0 ≤ niM_nameSize.toInt ∧ niM_nameSize.toInt ≤ 900) ∧ (0 ≤ niM_failed.toInt ∧ niM_failed.toInt ≤ 1) ∧ (iM_end.toInt ≤ niM_end.toInt) ∧ (ImpP (niM_token.toInt = 2) (niM_nameSize.toInt ≤ 8)) ∧ (iM_failed.toInt ≤ niM_failed.toInt) ∧ (ImpP (niM_failed.toInt ≤ 0 ∧ niM_token.toInt = 59 ) (iM_end.toInt + 1 ≤ niM_end.toInt)) ∧ (POk nfM_fresh nfM_read) ∧ (PX7_innerLine fM_tape iM_size iM_at iM_end iM_token iM_whole iM_nameSize iM_fault iM_place fM_letters iM_failed fM_fresh fM_read fM_fresher iM_fresherSize p0 = (niM_at, niM_end, niM_token, niM_whole, niM_nameSize, niM_fault, niM_place, niM_failed, niM_fresherSize, nfM_letters, nfM_fresh, nfM_read, nfM_fresher)) ∧ Bw dC dI A [(oc7 oM iM_thrown rM_tape iM_taped iM_size niM_at niM_end niM_token niM_whole niM_nameSize niM_fault niM_place iM_trouble rM_letters niM_failed iM_hasCourt rM_r rM_fresh rM_told rM_read rM_st rM_undone rM_kept iM_undos iM_images rM_fresher niM_fresherSize iM_scale iM_night rM_heardRow rM_cutRow iM_breaths iM_cutMany iM_allBreaths rM_trial rM_words iM_fewestBreaths iM_orderMany iM_orderSum iM_leastOrder rM_often iM_setMany iM_someOf iM_allOf iM_allWeight iM_enoughWeight iM_worthSum iM_firstRest iM_leastDrawn), (arI rM_tape kM_tape 900 fM_tape), (arI rM_letters kM_letters 8 nfM_letters), (arI rM_fresh kM_fresh 287 nfM_fresh), (arI rM_read kM_read 90 nfM_read), (arI rM_fresher kM_fresher 8 nfM_fresher)] [(kM_tape, .int), (kM_letters, .int), (kM_fresh, .int), (kM_read, .int), (kM_fresher, .int)] t) A) ([.ref oM, .int p0] : List Value).toArray s 0 0 A) (F0 m 45 ls []) := by
              intro n_6211
              induction n_6211 with
              | zero => intro z_6207 z_6208 z_6209 z_6210 H locs ls b_z_6208 hi0_n_6211 hi1_n_6211 hi2_n_6211 hm; exact absurd hm (Nat.not_lt_zero _)
              | succ n_6211 ih_n_6211 =>
                intro z_6207 z_6208 z_6209 z_6210 H locs ls b_z_6208 hi0_n_6211 hi1_n_6211 hi2_n_6211 hm_n_6211 hG hP hD hS hl
                have hG := hG.trans (HX7_innerLine_1_eq _ _ _ _ _ _ _ _ _ _ _ _ _ _ _ _ _ _ _ _ _ _)
                refine lv_iload hx hb dX7_innerLine_45 (lv_at hl 0 rfl) ?_
                refine lv_iload_n hx hb dX7_innerLine_47 rfl (lv_at hl 3 rfl) ?_
                refine lv_icmp_ge (tgt := 89) hx hb dX7_innerLine_48 (by decide) (fun c_6212 => ?_) (fun c_6212 => ?_)
                · skip
                  have hG := hG.trans (if_pos c_6212)
                  have gc_6212 := ti_le c_6212 rfl rfl
                  refine lv_aload_n hx hb dX7_innerLine_89 rfl (lv_at hl 5 rfl) ?_
                  refine va_get (D := (dC, dI)) (ci := 7) (v := .int z_6208) (C := RX7) (T := TX7) (N := 48) hx hb hts inX7 hown hK hP 0 rfl rfl 13 (by decide) (hts _ wd_380) (fun _ h9 => h9) rfl dX7_innerLine_90 ?_
                  refine lv_if_ne (tgt := 110) hx hb dX7_innerLine_93 (by decide) (fun c_6213 => ?_) (fun c_6213 => ?_)
                  · skip
                    have hG := hG.trans (if_neg c_6213)
                    have gc_6213 := ti_ne c_6213 rfl kc_0
                    replace gc_6213 : (-1) * z_6208.toInt + 1 ≤ 0 := om_e3003f79 gc_6213 b_z_6208.1
                    refine lv_aload_n hx hb dX7_innerLine_110 rfl (lv_at hl 5 rfl) ?_
                    have hMs := ml_of hD [true, true, true, false, false, false] (wc := [(oc7 oM iM_thrown rM_tape iM_taped iM_size z_6173 z_6174 z_6175 z_6176 z_6177 z_6209 z_6210 iM_trouble rM_letters z_6208 iM_hasCourt rM_r rM_fresh rM_told rM_read rM_st rM_undone rM_kept iM_undos iM_images rM_fresher x_6167 iM_scale iM_night rM_heardRow rM_cutRow iM_breaths iM_cutMany iM_allBreaths rM_trial rM_words iM_fewestBreaths iM_orderMany iM_orderSum iM_leastOrder rM_often iM_setMany iM_someOf iM_allOf iM_allWeight iM_enoughWeight iM_worthSum iM_firstRest iM_leastDrawn), (arI rM_tape kM_tape 900 fM_tape), (arI rM_letters kM_letters 8 f_6181)]) rfl
                    have hFc := va_freeM hD hS hA _ hMs
                    refine va_callv (va_runV (As := []) (rest := []) ⟨hx, hb, hml, hown, hts⟩ (tX7_pass l dC dI _ oM iM_thrown rM_tape fM_tape kM_tape iM_taped iM_size z_6173 z_6174 z_6175 z_6176 z_6177 z_6209 z_6210 iM_trouble rM_letters f_6181 kM_letters z_6208 iM_hasCourt rM_r rM_fresh rM_told rM_read rM_st rM_undone rM_kept iM_undos iM_images rM_fresher x_6167 iM_scale iM_night rM_heardRow rM_cutRow iM_breaths iM_cutMany iM_allBreaths rM_trial rM_words iM_fewestBreaths iM_orderMany iM_orderSum iM_leastOrder rM_often iM_setMany iM_someOf iM_allOf iM_allWeight iM_enoughWeight iM_worthSum iM_firstRest iM_leastDrawn b_iM_taped b_iM_size b_z_6174 b_z_6177 b_z_6208 b_iM_hasCourt b_iM_undos b_iM_images b_iM_scale b_iM_breaths b_iM_cutMany hi6_n_6184) (cwV 0 hts (wd_V wd_454 wd_455 wd_456 wd_5 (wd_c wd_457)) rfl rfl rfl dv_yX7_pass_0 ⟨Nat.le_of_ble_eq_true rfl, Nat.le_of_ble_eq_true rfl⟩) ⟨Pw.fb, recvX7 hK hP (q0 := 0) rfl, fun U hU hW => Pw.to (hP.ms _ hMs) (hD.ms _ hMs) (hK.ms [true, true, false, false, false] rfl) hE hS hFc hU hW⟩ rfl rfl hl.1 rfl (lv_room (Nat.le_of_ble_eq_true rfl)) dX7_innerLine_111 ⟨Nat.le_of_ble_eq_true rfl, Nat.le_of_ble_eq_true rfl⟩) hS (fun q _ h => hFc q h) hFc (fun u t H locs ht hvm hw hB hz1 hk1 hS => ?_)
                    refine ex_6_6 hB (fun x_6214 x_6215 x_6216 x_6217 x_6218 f_6219 b_x_6215 b_x_6218 e_x_6214_0 e_x_6214_1 e_x_6214_2 e_x_6214_3 hB => ?_)
                    obtain ⟨hP, hD⟩ := Bw.goN (ws' := [(oc7 oM iM_thrown rM_tape iM_taped iM_size x_6214 x_6215 x_6216 x_6217 x_6218 z_6209 z_6210 iM_trouble rM_letters z_6208 iM_hasCourt rM_r rM_fresh rM_told rM_read rM_st rM_undone rM_kept iM_undos iM_images rM_fresher x_6167 iM_scale iM_night rM_heardRow rM_cutRow iM_breaths iM_cutMany iM_allBreaths rM_trial rM_words iM_fewestBreaths iM_orderMany iM_orderSum iM_leastOrder rM_often iM_setMany iM_someOf iM_allOf iM_allWeight iM_enoughWeight iM_worthSum iM_firstRest iM_leastDrawn), (arI rM_tape kM_tape 900 fM_tape), (arI rM_letters kM_letters 8 f_6219), (arI rM_fresh kM_fresh 287 f_6182), (arI rM_read kM_read 90 f_6183), (arI rM_fresher kM_fresher 8 f_6169)]) hB rfl ht hP hD _ hMs hk1 hFc rfl
                    clear hz1 hk1 hvm ht hB hMs
                    have hG := hG.trans (un6_eq e_x_6214_3)
                    clear hi6_n_6184
                    clear hi8_n_6184
                    refine lv_iload_n hx hb dX7_innerLine_114 rfl (lv_at hl 6 rfl) ?_
                    refine lv_iconst (v := 3) hx hb dX7_innerLine_115 (by decide) ?_
                    refine lv_icmp_ne (tgt := 129) hx hb dX7_innerLine_116 (by decide) (fun c_6220 => ?_) (fun c_6220 => ?_)
                    · skip
                      have hG := hG.trans (if_neg c_6220)
                      have gc_6220 := ti_ne c_6220 rfl kc_3
                      replace gc_6220 : p0.toInt + (-2) ≤ 0 := om_b7ea5ffe gc_6220 hp0.2
                      clear hic
                      refine lv_iconst (v := 0) hx hb dX7_innerLine_129 (by decide) ?_
                      refine lv_istore (lv' := [(6, .int 0), (5, .int x_6206), (4, .int z_6172), (3, .int z_6171), (2, .int x_6170), (0, .ref oM), (1, .int p0)]) hx hb dX7_innerLine_130 hl (by decide) rfl (fun ls hl => ?_)
                      refine lv_aload_n hx hb dX7_innerLine_132 rfl (lv_at hl 5 rfl) ?_
                      refine va_get (D := (dC, dI)) (ci := 7) (v := .int z_6208) (C := RX7) (T := TX7) (N := 48) hx hb hts inX7 hown hK hP 0 rfl rfl 13 (by decide) (hts _ wd_380) (fun _ h9 => h9) rfl dX7_innerLine_133 ?_
                      refine lv_if_eq (tgt := 140) hx hb dX7_innerLine_136 (by decide) (fun c_6221 => ?_) (fun c_6221 => ?_)
                      · skip
                        have hG := hG.trans (if_pos c_6221)
                        have gc_6221 := ti_eq c_6221 rfl kc_0
                        exact ((om_77e4ddb5 gc_6213 gc_6221)).elim
                      · skip
                        have hG := hG.trans (if_neg c_6221)
                        have gc_6221 := ti_ne c_6221 rfl kc_0
                        replace gc_6221 : (-1) * z_6208.toInt + 1 ≤ 0 := om_e3003f79 gc_6221 b_z_6208.1
                        exact wq_v hx hb hr 0 trivial (fun t ht hW => ⟨x_6214, x_6215, x_6216, x_6217, x_6218, z_6209, z_6210, z_6208, x_6167, f_6219, f_6182, f_6183, f_6169, b_x_6215, b_x_6218, b_z_6208, (om_9348f5ae hi7_n_6184 e_x_6214_0), e_x_6214_1, (om_1fc3dec6 gc_6157 b_z_6208.1), (fun h9 => False.elim (om_a5fe015d gc_6213 h9.1)), hi2_n_6184, hG, Bw.to hP hD hK ht hW⟩) hS dX7_innerLine_139 hlocks
                    · skip
                      have hG := hG.trans (if_pos c_6220)
                      have gc_6220 := ti_eq c_6220 rfl kc_3
                      have h_6222 : (fM_fresh 8).toInt ≤ 1 := hic ⟨(om_02e9bb08 gc_6157), (om_ce492ef9 hp0.2 gc_6220)⟩
                      clear hic
                      refine lv_aload_n hx hb dX7_innerLine_119 rfl (lv_at hl 5 rfl) ?_
                      refine lv_iconst (v := 1) hx hb dX7_innerLine_120 (by decide) ?_
                      refine lv_bipush (v := 9) hx hb dX7_innerLine_121 (by decide) ?_
                      have hMs := ml_of hD [true, true, true, false, false, false] (wc := [(oc7 oM iM_thrown rM_tape iM_taped iM_size x_6214 x_6215 x_6216 x_6217 x_6218 z_6209 z_6210 iM_trouble rM_letters z_6208 iM_hasCourt rM_r rM_fresh rM_told rM_read rM_st rM_undone rM_kept iM_undos iM_images rM_fresher x_6167 iM_scale iM_night rM_heardRow rM_cutRow iM_breaths iM_cutMany iM_allBreaths rM_trial rM_words iM_fewestBreaths iM_orderMany iM_orderSum iM_leastOrder rM_often iM_setMany iM_someOf iM_allOf iM_allWeight iM_enoughWeight iM_worthSum iM_firstRest iM_leastDrawn), (arI rM_tape kM_tape 900 fM_tape), (arI rM_letters kM_letters 8 f_6219)]) rfl
                      have hFc := va_freeM hD hS hA _ hMs
                      refine va_calli (va_runV (As := [.int 1, .int 9]) (rest := []) ⟨hx, hb, hml, hown, hts⟩ (tX7_number l dC dI _ oM iM_thrown rM_tape fM_tape kM_tape iM_taped iM_size x_6214 x_6215 x_6216 x_6217 x_6218 z_6209 z_6210 iM_trouble rM_letters f_6219 kM_letters z_6208 iM_hasCourt rM_r rM_fresh rM_told rM_read rM_st rM_undone rM_kept iM_undos iM_images rM_fresher x_6167 iM_scale iM_night rM_heardRow rM_cutRow iM_breaths iM_cutMany iM_allBreaths rM_trial rM_words iM_fewestBreaths iM_orderMany iM_orderSum iM_leastOrder rM_often iM_setMany iM_someOf iM_allOf iM_allWeight iM_enoughWeight iM_worthSum iM_firstRest iM_leastDrawn 1 9 b_iM_taped b_iM_size b_x_6215 b_x_6218 b_z_6208 b_iM_hasCourt b_iM_undos b_iM_images b_iM_scale b_iM_breaths b_iM_cutMany e_x_6214_1 (om_dc317686 kc_1 kc_9)) (cwV 2 hts (wd_V wd_446 wd_447 wd_448 wd_5 (wd_c wd_449)) rfl rfl rfl dv_yX7_number_2 ⟨Nat.le_of_ble_eq_true rfl, Nat.le_of_ble_eq_true rfl⟩) ⟨Pw.fb, recvX7 hK hP (q0 := 0) rfl, fun U hU hW => Pw.to (hP.ms _ hMs) (hD.ms _ hMs) (hK.ms [true, true, false, false, false] rfl) hE hS hFc hU hW⟩ rfl rfl hl.1 rfl (lv_room (Nat.le_of_ble_eq_true rfl)) dX7_innerLine_123 ⟨Nat.le_of_ble_eq_true rfl, Nat.le_of_ble_eq_true rfl⟩) hS (fun q _ h => hFc q h) hFc (fun r u t H locs ht hvm hw hB hz1 hk1 hS => ?_)
                      have hru9 := hw.2
                      have hw := hw.1
                      refine ex_9_8 hB (fun x_6223 x_6224 x_6225 x_6226 x_6227 x_6228 x_6229 x_6230 f_6231 b_x_6224 b_x_6227 b_x_6230 e_x_6223_0 e_x_6223_1 e_x_6223_2 e_x_6223_3 e_x_6223_4 hB => ?_)
                      obtain ⟨hP, hD⟩ := Bw.goN (ws' := [(oc7 oM iM_thrown rM_tape iM_taped iM_size x_6223 x_6224 x_6225 x_6226 x_6227 x_6228 x_6229 iM_trouble rM_letters x_6230 iM_hasCourt rM_r rM_fresh rM_told rM_read rM_st rM_undone rM_kept iM_undos iM_images rM_fresher x_6167 iM_scale iM_night rM_heardRow rM_cutRow iM_breaths iM_cutMany iM_allBreaths rM_trial rM_words iM_fewestBreaths iM_orderMany iM_orderSum iM_leastOrder rM_often iM_setMany iM_someOf iM_allOf iM_allWeight iM_enoughWeight iM_worthSum iM_firstRest iM_leastDrawn), (arI rM_tape kM_tape 900 fM_tape), (arI rM_letters kM_letters 8 f_6231), (arI rM_fresh kM_fresh 287 f_6182), (arI rM_read kM_read 90 f_6183), (arI rM_fresher kM_fresher 8 f_6169)]) hB rfl ht hP hD _ hMs hk1 hFc rfl
                      clear hz1 hk1 hvm ht hB hMs
                      rw [← hru9] at e_x_6223_4
                      obtain ⟨x_6232, rfl⟩ : ∃ z, z = r := ⟨_, rfl⟩
                      have hG := hG.trans (un10_eq e_x_6223_4)
                      have lx_6232 := hw.2
                      have kl_1 := kc_1
                      have kl_9 := kc_9
                      clear e_x_6214_1
                      clear e_x_6214_2
                      refine lv_goto (tgt := 130) hx hb dX7_innerLine_126 (by decide) ?_
                      refine lv_istore (lv' := [(6, .int x_6232), (5, .int x_6206), (4, .int z_6172), (3, .int z_6171), (2, .int x_6170), (0, .ref oM), (1, .int p0)]) hx hb dX7_innerLine_130 hl (by decide) rfl (fun ls hl => ?_)
                      refine lv_aload_n hx hb dX7_innerLine_132 rfl (lv_at hl 5 rfl) ?_
                      refine va_get (D := (dC, dI)) (ci := 7) (v := .int x_6230) (C := RX7) (T := TX7) (N := 48) hx hb hts inX7 hown hK hP 0 rfl rfl 13 (by decide) (hts _ wd_380) (fun _ h9 => h9) rfl dX7_innerLine_133 ?_
                      refine lv_if_eq (tgt := 140) hx hb dX7_innerLine_136 (by decide) (fun c_6233 => ?_) (fun c_6233 => ?_)
                      · skip
                        have hG := hG.trans (if_pos c_6233)
                        have gc_6233 := ti_eq c_6233 rfl kc_0
                        exact ((om_30d40e72 gc_6213 e_x_6223_2 gc_6233)).elim
                      · skip
                        have hG := hG.trans (if_neg c_6233)
                        have gc_6233 := ti_ne c_6233 rfl kc_0
                        replace gc_6233 : (-1) * x_6230.toInt + 1 ≤ 0 := om_e3003f79 gc_6233 b_x_6230.1
                        exact wq_v hx hb hr 0 trivial (fun t ht hW => ⟨x_6223, x_6224, x_6225, x_6226, x_6227, x_6228, x_6229, x_6230, x_6167, f_6231, f_6182, f_6183, f_6169, b_x_6224, b_x_6227, b_x_6230, (om_622f2a87 hi7_n_6184 e_x_6214_0 e_x_6223_0), e_x_6223_1, (om_1fc3dec6 gc_6157 b_x_6230.1), (fun h9 => False.elim (om_a5fe015d gc_6233 h9.1)), hi2_n_6184, hG, Bw.to hP hD hK ht hW⟩) hS dX7_innerLine_139 hlocks
                  · skip
                    have hG := hG.trans (if_pos c_6213)
                    have gc_6213 := ti_eq c_6213 rfl kc_0
                    have h_6234 : 1 ≤ (f_6182 1).toInt := e_x_6203_1 (om_6c480895 hi1_n_6211 gc_6213)
                    clear e_x_6203_1
                    have h_6235 : x_6206.toInt < (f_6182 1).toInt := lx_6206.2.1 h_6234
                    refine lv_iload_n hx hb dX7_innerLine_96 rfl (lv_at hl 3 rfl) ?_
                    refine lv_iconst (v := 4) hx hb dX7_innerLine_97 (by decide) ?_
                    refine lv_icmp_ne (tgt := 110) hx hb dX7_innerLine_98 (by decide) (fun c_6236 => ?_) (fun c_6236 => ?_)
                    · skip
                      have hG := hG.trans (if_neg c_6236)
                      have gc_6236 := ti_ne c_6236 rfl kc_4
                      replace gc_6236 : z_6171.toInt + (-3) ≤ 0 := om_96839482 gc_6236 hi0_n_6184.2
                      refine lv_aload_n hx hb dX7_innerLine_110 rfl (lv_at hl 5 rfl) ?_
                      have hMs := ml_of hD [true, true, true, false, false, false] (wc := [(oc7 oM iM_thrown rM_tape iM_taped iM_size z_6173 z_6174 z_6175 z_6176 z_6177 z_6209 z_6210 iM_trouble rM_letters z_6208 iM_hasCourt rM_r rM_fresh rM_told rM_read rM_st rM_undone rM_kept iM_undos iM_images rM_fresher x_6167 iM_scale iM_night rM_heardRow rM_cutRow iM_breaths iM_cutMany iM_allBreaths rM_trial rM_words iM_fewestBreaths iM_orderMany iM_orderSum iM_leastOrder rM_often iM_setMany iM_someOf iM_allOf iM_allWeight iM_enoughWeight iM_worthSum iM_firstRest iM_leastDrawn), (arI rM_tape kM_tape 900 fM_tape), (arI rM_letters kM_letters 8 f_6181)]) rfl
                      have hFc := va_freeM hD hS hA _ hMs
                      refine va_callv (va_runV (As := []) (rest := []) ⟨hx, hb, hml, hown, hts⟩ (tX7_pass l dC dI _ oM iM_thrown rM_tape fM_tape kM_tape iM_taped iM_size z_6173 z_6174 z_6175 z_6176 z_6177 z_6209 z_6210 iM_trouble rM_letters f_6181 kM_letters z_6208 iM_hasCourt rM_r rM_fresh rM_told rM_read rM_st rM_undone rM_kept iM_undos iM_images rM_fresher x_6167 iM_scale iM_night rM_heardRow rM_cutRow iM_breaths iM_cutMany iM_allBreaths rM_trial rM_words iM_fewestBreaths iM_orderMany iM_orderSum iM_leastOrder rM_often iM_setMany iM_someOf iM_allOf iM_allWeight iM_enoughWeight iM_worthSum iM_firstRest iM_leastDrawn b_iM_taped b_iM_size b_z_6174 b_z_6177 b_z_6208 b_iM_hasCourt b_iM_undos b_iM_images b_iM_scale b_iM_breaths b_iM_cutMany hi6_n_6184) (cwV 0 hts (wd_V wd_454 wd_455 wd_456 wd_5 (wd_c wd_457)) rfl rfl rfl dv_yX7_pass_0 ⟨Nat.le_of_ble_eq_true rfl, Nat.le_of_ble_eq_true rfl⟩) ⟨Pw.fb, recvX7 hK hP (q0 := 0) rfl, fun U hU hW => Pw.to (hP.ms _ hMs) (hD.ms _ hMs) (hK.ms [true, true, false, false, false] rfl) hE hS hFc hU hW⟩ rfl rfl hl.1 rfl (lv_room (Nat.le_of_ble_eq_true rfl)) dX7_innerLine_111 ⟨Nat.le_of_ble_eq_true rfl, Nat.le_of_ble_eq_true rfl⟩) hS (fun q _ h => hFc q h) hFc (fun u t H locs ht hvm hw hB hz1 hk1 hS => ?_)
                      refine ex_6_6 hB (fun x_6237 x_6238 x_6239 x_6240 x_6241 f_6242 b_x_6238 b_x_6241 e_x_6237_0 e_x_6237_1 e_x_6237_2 e_x_6237_3 hB => ?_)
                      obtain ⟨hP, hD⟩ := Bw.goN (ws' := [(oc7 oM iM_thrown rM_tape iM_taped iM_size x_6237 x_6238 x_6239 x_6240 x_6241 z_6209 z_6210 iM_trouble rM_letters z_6208 iM_hasCourt rM_r rM_fresh rM_told rM_read rM_st rM_undone rM_kept iM_undos iM_images rM_fresher x_6167 iM_scale iM_night rM_heardRow rM_cutRow iM_breaths iM_cutMany iM_allBreaths rM_trial rM_words iM_fewestBreaths iM_orderMany iM_orderSum iM_leastOrder rM_often iM_setMany iM_someOf iM_allOf iM_allWeight iM_enoughWeight iM_worthSum iM_firstRest iM_leastDrawn), (arI rM_tape kM_tape 900 fM_tape), (arI rM_letters kM_letters 8 f_6242), (arI rM_fresh kM_fresh 287 f_6182), (arI rM_read kM_read 90 f_6183), (arI rM_fresher kM_fresher 8 f_6169)]) hB rfl ht hP hD _ hMs hk1 hFc rfl
                      clear hz1 hk1 hvm ht hB hMs
                      have hG := hG.trans (un6_eq e_x_6237_3)
                      clear hi6_n_6184
                      clear hi8_n_6184
                      refine lv_iload_n hx hb dX7_innerLine_114 rfl (lv_at hl 6 rfl) ?_
                      refine lv_iconst (v := 3) hx hb dX7_innerLine_115 (by decide) ?_
                      refine lv_icmp_ne (tgt := 129) hx hb dX7_innerLine_116 (by decide) (fun c_6243 => ?_) (fun c_6243 => ?_)
                      · skip
                        have hG := hG.trans (if_neg c_6243)
                        have gc_6243 := ti_ne c_6243 rfl kc_3
                        replace gc_6243 : p0.toInt + (-2) ≤ 0 := om_b7ea5ffe gc_6243 hp0.2
                        clear hic
                        refine lv_iconst (v := 0) hx hb dX7_innerLine_129 (by decide) ?_
                        refine lv_istore (lv' := [(6, .int 0), (5, .int x_6206), (4, .int z_6172), (3, .int z_6171), (2, .int x_6170), (0, .ref oM), (1, .int p0)]) hx hb dX7_innerLine_130 hl (by decide) rfl (fun ls hl => ?_)
                        refine lv_aload_n hx hb dX7_innerLine_132 rfl (lv_at hl 5 rfl) ?_
                        refine va_get (D := (dC, dI)) (ci := 7) (v := .int z_6208) (C := RX7) (T := TX7) (N := 48) hx hb hts inX7 hown hK hP 0 rfl rfl 13 (by decide) (hts _ wd_380) (fun _ h9 => h9) rfl dX7_innerLine_133 ?_
                        refine lv_if_eq (tgt := 140) hx hb dX7_innerLine_136 (by decide) (fun c_6244 => ?_) (fun c_6244 => ?_)
                        · skip
                          have hG := hG.trans (if_pos c_6244)
                          have gc_6244 := ti_eq c_6244 rfl kc_0
                          refine lv_aload_n hx hb dX7_innerLine_140 rfl (lv_at hl 5 rfl) ?_
                          refine va_get (D := (dC, dI)) (ci := 7) (v := .ref rM_read) (C := RX7) (T := TX7) (N := 48) hx hb hts inX7 hown hK hP 0 rfl rfl 18 (by decide) (hts _ wd_158) (fun _ h9 => h9) rfl dX7_innerLine_141 ?_
                          refine lv_iconst (v := 4) hx hb dX7_innerLine_144 (by decide) ?_
                          refine lv_iload_n hx hb dX7_innerLine_145 rfl (lv_at hl 4 rfl) ?_
                          refine lv_imul hx hb dX7_innerLine_146 ?_
                          refine lv_topi (fun x_6245 ex_6245 => ?_)
                          have hG := hG.trans (lt_eq ex_6245)
                          have vx_6245 : x_6245.toInt = 4 * x_6170.toInt := ti_mul ex_6245 kc_4 rfl (om_9e6bb6a4 pl_fM_fresh.2.2.2.2.1.1 pl_fM_fresh.2.2.2.2.1.2 cx_6170) (om_7d3cae7d pl_fM_fresh.2.1 pl_fM_fresh.2.2.1.2 pl_fM_fresh.2.2.2.2.2.1.2 cx_6170)
                          refine lv_iload_n hx hb dX7_innerLine_147 rfl (lv_at hl 3 rfl) ?_
                          refine lv_iadd hx hb dX7_innerLine_148 ?_
                          refine lv_topi (fun x_6246 ex_6246 => ?_)
                          have hG := hG.trans (lt_eq ex_6246)
                          have vx_6246 : x_6246.toInt = 4 * x_6170.toInt + z_6171.toInt := om_5d0caf0f (ti_add ex_6246 vx_6245 rfl (om_80a5d224 pl_fM_fresh.2.2.2.2.1.1 pl_fM_fresh.2.2.2.2.1.2 cx_6170 hi0_n_6184.1) (om_65488096 pl_fM_fresh.2.1 pl_fM_fresh.2.2.1.2 pl_fM_fresh.2.2.2.2.2.1.2 cx_6170 hi0_n_6184.2))
                          refine lv_iload hx hb dX7_innerLine_149 (lv_at hl 1 rfl) ?_
                          refine va_iast hx hb hK hP hD hS 4 3 rfl rfl (ti_in vx_6246 (om_dcc527d7 pl_fM_fresh.2.2.2.2.1.1 pl_fM_fresh.2.2.2.2.1.2 cx_6170 hi0_n_6184.1) (om_1343fdf1 pl_fM_fresh.2.1 pl_fM_fresh.2.2.1.2 pl_fM_fresh.2.2.2.2.2.1.2 cx_6170 hi0_n_6184.2)) dX7_innerLine_151 (fun H locs hP hD hS => ?_)
                          obtain ⟨f_6247, ef_6247⟩ : ∃ g : Nat → Int32, g = upd f_6183 x_6246.toNatClampNeg x_6206 := ⟨_, rfl⟩
                          rw [← ef_6247] at hP hD
                          have hG := hG.trans (lt_eq ef_6247)
                          obtain ⟨hP, hD⟩ := wl2 (ws' := [(oc7 oM iM_thrown rM_tape iM_taped iM_size x_6237 x_6238 x_6239 x_6240 x_6241 z_6209 z_6210 iM_trouble rM_letters z_6208 iM_hasCourt rM_r rM_fresh rM_told rM_read rM_st rM_undone rM_kept iM_undos iM_images rM_fresher x_6167 iM_scale iM_night rM_heardRow rM_cutRow iM_breaths iM_cutMany iM_allBreaths rM_trial rM_words iM_fewestBreaths iM_orderMany iM_orderSum iM_leastOrder rM_often iM_setMany iM_someOf iM_allOf iM_allWeight iM_enoughWeight iM_worthSum iM_firstRest iM_leastDrawn), (arI rM_tape kM_tape 900 fM_tape), (arI rM_letters kM_letters 8 f_6242), (arI rM_fresh kM_fresh 287 f_6182), (arI rM_read kM_read 90 f_6247), (arI rM_fresher kM_fresher 8 f_6169)]) hP hD rfl
                          have q_n1 := ti_cl (x := f_6182 1) rfl (by omega)
                          have pk_f_6247 : POk f_6182 f_6247 := POk.prt hi2_n_6184 ef_6247 (by have q9 := ti_cl (x := x_6246) vx_6246 (om_dcc527d7 pl_fM_fresh.2.2.2.2.1.1 pl_fM_fresh.2.2.2.2.1.2 cx_6170 hi0_n_6184.1); omega) (by have q9 := ti_cl (x := x_6246) vx_6246 (om_dcc527d7 pl_fM_fresh.2.2.2.2.1.1 pl_fM_fresh.2.2.2.2.1.2 cx_6170 hi0_n_6184.1); omega)
                          refine lv_aload_n hx hb dX7_innerLine_152 rfl (lv_at hl 5 rfl) ?_
                          refine va_get (D := (dC, dI)) (ci := 7) (v := .ref rM_fresh) (C := RX7) (T := TX7) (N := 48) hx hb hts inX7 hown hK hP 0 rfl rfl 16 (by decide) (hts _ wd_156) (fun _ h9 => h9) rfl dX7_innerLine_153 ?_
                          refine lv_bipush (v := 45) hx hb dX7_innerLine_156 (by decide) ?_
                          refine lv_iconst (v := 4) hx hb dX7_innerLine_158 (by decide) ?_
                          refine lv_iload_n hx hb dX7_innerLine_159 rfl (lv_at hl 4 rfl) ?_
                          refine lv_imul hx hb dX7_innerLine_160 ?_
                          refine lv_topi (fun x_6248 ex_6248 => ?_)
                          have hG := hG.trans (lt_eq ex_6248)
                          have vx_6248 : x_6248.toInt = 4 * x_6170.toInt := ti_mul ex_6248 kc_4 rfl (om_9e6bb6a4 pl_fM_fresh.2.2.2.2.1.1 pl_fM_fresh.2.2.2.2.1.2 cx_6170) (om_7d3cae7d pl_fM_fresh.2.1 pl_fM_fresh.2.2.1.2 pl_fM_fresh.2.2.2.2.2.1.2 cx_6170)
                          refine lv_iadd hx hb dX7_innerLine_161 ?_
                          refine lv_topi (fun x_6249 ex_6249 => ?_)
                          have hG := hG.trans (lt_eq ex_6249)
                          have vx_6249 : x_6249.toInt = 4 * x_6170.toInt + 45 := om_702bf7ac (ti_add ex_6249 kc_45 vx_6248 (om_0c5ad906 pl_fM_fresh.2.2.2.2.1.1 pl_fM_fresh.2.2.2.2.1.2 cx_6170) (om_5da1924c pl_fM_fresh.2.1 pl_fM_fresh.2.2.1.2 pl_fM_fresh.2.2.2.2.2.1.2 cx_6170))
                          refine lv_iload_n hx hb dX7_innerLine_162 rfl (lv_at hl 3 rfl) ?_
                          refine lv_iadd hx hb dX7_innerLine_163 ?_
                          refine lv_topi (fun x_6250 ex_6250 => ?_)
                          have hG := hG.trans (lt_eq ex_6250)
                          have vx_6250 : x_6250.toInt = 4 * x_6170.toInt + z_6171.toInt + 45 := om_0ab12ad6 (ti_add ex_6250 vx_6249 rfl (om_563b8554 pl_fM_fresh.2.2.2.2.1.1 pl_fM_fresh.2.2.2.2.1.2 cx_6170 hi0_n_6184.1) (om_87f6ba8c pl_fM_fresh.2.1 pl_fM_fresh.2.2.1.2 pl_fM_fresh.2.2.2.2.2.1.2 cx_6170 hi0_n_6184.2))
                          refine lv_iload hx hb dX7_innerLine_164 (lv_at hl 0 rfl) ?_
                          refine va_iast hx hb hK hP hD hS 3 2 rfl rfl (ti_in vx_6250 (om_d2c9edc5 pl_fM_fresh.2.2.2.2.1.1 pl_fM_fresh.2.2.2.2.1.2 cx_6170 hi0_n_6184.1) (om_21e450b4 pl_fM_fresh.2.1 pl_fM_fresh.2.2.1.2 pl_fM_fresh.2.2.2.2.2.1.2 cx_6170 hi0_n_6184.2)) dX7_innerLine_166 (fun H locs hP hD hS => ?_)
                          obtain ⟨f_6251, ef_6251⟩ : ∃ g : Nat → Int32, g = upd f_6182 x_6250.toNatClampNeg (0 : Int32) := ⟨_, rfl⟩
                          rw [← ef_6251] at hP hD
                          have hG := hG.trans (lt_eq ef_6251)
                          obtain ⟨hP, hD⟩ := wl2 (ws' := [(oc7 oM iM_thrown rM_tape iM_taped iM_size x_6237 x_6238 x_6239 x_6240 x_6241 z_6209 z_6210 iM_trouble rM_letters z_6208 iM_hasCourt rM_r rM_fresh rM_told rM_read rM_st rM_undone rM_kept iM_undos iM_images rM_fresher x_6167 iM_scale iM_night rM_heardRow rM_cutRow iM_breaths iM_cutMany iM_allBreaths rM_trial rM_words iM_fewestBreaths iM_orderMany iM_orderSum iM_leastOrder rM_often iM_setMany iM_someOf iM_allOf iM_allWeight iM_enoughWeight iM_worthSum iM_firstRest iM_leastDrawn), (arI rM_tape kM_tape 900 fM_tape), (arI rM_letters kM_letters 8 f_6242), (arI rM_fresh kM_fresh 287 f_6251), (arI rM_read kM_read 90 f_6247), (arI rM_fresher kM_fresher 8 f_6169)]) hP hD rfl
                          have pk_f_6251 : POk f_6251 f_6247 := POk.put pk_f_6247 ef_6251 (Or.inr (Or.inr (Or.inr (Or.inr (Or.inr (Or.inl (by have q9 := ti_cl (x := x_6250) vx_6250 (om_d2c9edc5 pl_fM_fresh.2.2.2.2.1.1 pl_fM_fresh.2.2.2.2.1.2 cx_6170 hi0_n_6184.1); have q8 := kc_0; omega)))))))
                          have pl_f_6251 := pk_f_6251.lins
                          have nn9 : (f_6182 1).toNatClampNeg = x_6170.toNatClampNeg := by have q1 := ti_cl (x := x_6170) rfl (om_1ab2c227 pl_fM_fresh.2.2.2.2.1.1 pl_fM_fresh.2.2.2.2.1.2 cx_6170); have q2 := ti_cl (x := f_6182 1) rfl (by omega); have q3 := ti_cl (x := z_6171) rfl hi0_n_6184.1; omega
                          have in9 : InOk f_6251 f_6247 (f_6251 1).toNatClampNeg (z_6171.toNatClampNeg + 1) p0.toInt := in_step hi3_n_6184 rfl ef_6247 (by have q1 := ti_cl (x := x_6170) rfl (om_1ab2c227 pl_fM_fresh.2.2.2.2.1.1 pl_fM_fresh.2.2.2.2.1.2 cx_6170); have q2 := ti_cl (x := f_6182 1) rfl (by omega); have q3 := ti_cl (x := z_6171) rfl hi0_n_6184.1; have q9 := ti_cl (x := x_6246) vx_6246 (om_dcc527d7 pl_fM_fresh.2.2.2.2.1.1 pl_fM_fresh.2.2.2.2.1.2 cx_6170 hi0_n_6184.1); omega) ef_6251 (by have q1 := ti_cl (x := x_6170) rfl (om_1ab2c227 pl_fM_fresh.2.2.2.2.1.1 pl_fM_fresh.2.2.2.2.1.2 cx_6170); have q2 := ti_cl (x := f_6182 1) rfl (by omega); have q3 := ti_cl (x := z_6171) rfl hi0_n_6184.1; have q9 := ti_cl (x := x_6250) vx_6250 (om_d2c9edc5 pl_fM_fresh.2.2.2.2.1.1 pl_fM_fresh.2.2.2.2.1.2 cx_6170 hi0_n_6184.1); omega) (by omega) (by have q1 := ti_cl (x := x_6170) rfl (om_1ab2c227 pl_fM_fresh.2.2.2.2.1.1 pl_fM_fresh.2.2.2.2.1.2 cx_6170); have q2 := ti_cl (x := f_6182 1) rfl (by omega); have q3 := ti_cl (x := z_6171) rfl hi0_n_6184.1; omega) (fun i9 h9 => by rw [nn9]; exact hi2_n_6211 (by omega) i9 (by have q1 := ti_cl (x := x_6170) rfl (om_1ab2c227 pl_fM_fresh.2.2.2.2.1.1 pl_fM_fresh.2.2.2.2.1.2 cx_6170); have q2 := ti_cl (x := f_6182 1) rfl (by omega); have q3 := ti_cl (x := z_6171) rfl hi0_n_6184.1; have q4 := ti_cl (x := z_6207) rfl hi0_n_6211.1; omega)) (fun h9 => by have q0 := kc_0; omega) rfl
                          have o1_f_6251 : (f_6251 1).toInt = (f_6182 1).toInt := put_at ef_6251 (Nat.ne_of_lt (om_9b872883 (ti_cl (x := x_6250) vx_6250 (om_d2c9edc5 pl_fM_fresh.2.2.2.2.1.1 pl_fM_fresh.2.2.2.2.1.2 cx_6170 hi0_n_6184.1)) pl_fM_fresh.2.2.2.2.1.1 pl_fM_fresh.2.2.2.2.1.2 cx_6170 hi0_n_6184.1))
                          have o7_f_6251 : (f_6251 7).toInt = (f_6182 7).toInt := put_at ef_6251 (Nat.ne_of_lt (om_58da8a1c (ti_cl (x := x_6250) vx_6250 (om_d2c9edc5 pl_fM_fresh.2.2.2.2.1.1 pl_fM_fresh.2.2.2.2.1.2 cx_6170 hi0_n_6184.1)) pl_fM_fresh.2.2.2.2.1.1 pl_fM_fresh.2.2.2.2.1.2 cx_6170 hi0_n_6184.1))
                          have o8_f_6251 : (f_6251 8).toInt = (f_6182 8).toInt := put_at ef_6251 (Nat.ne_of_lt (om_f4400bad (ti_cl (x := x_6250) vx_6250 (om_d2c9edc5 pl_fM_fresh.2.2.2.2.1.1 pl_fM_fresh.2.2.2.2.1.2 cx_6170 hi0_n_6184.1)) pl_fM_fresh.2.2.2.2.1.1 pl_fM_fresh.2.2.2.2.1.2 cx_6170 hi0_n_6184.1))
                          obtain ⟨x_6252, ex_6252⟩ : ∃ z : Int32, z = z_6171 + Int32.ofInt 1 := ⟨_, rfl⟩
                          have hG := hG.trans (lt_eq ex_6252)
                          have vx_6252 : x_6252.toInt = z_6171.toInt + 1 := ti_add (y := 1) ex_6252 rfl kc_1 (om_4e4fce7e hi0_n_6184.1) (om_bae2951a hi0_n_6184.2)
                          refine lv_iinc (v := x_6252) (lv' := [(3, .int x_6252), (6, .int 0), (5, .int x_6206), (4, .int z_6172), (2, .int x_6170), (0, .ref oM), (1, .int p0)]) hx hb dX7_innerLine_167 hl (k := 3) rfl ex_6252.symm (by decide) rfl (fun ls hl => ?_)
                          refine lv_aload_n hx hb dX7_innerLine_170 rfl (lv_at hl 5 rfl) ?_
                          refine va_get (D := (dC, dI)) (ci := 7) (v := .int x_6239) (C := RX7) (T := TX7) (N := 48) hx hb hts inX7 hown hK hP 0 rfl rfl 6 (by decide) (hts _ wd_383) (fun _ h9 => h9) rfl dX7_innerLine_171 ?_
                          refine lv_bipush (v := 44) hx hb dX7_innerLine_174 (by decide) ?_
                          refine lv_icmp_ne (tgt := 183) hx hb dX7_innerLine_176 (by decide) (fun c_6253 => ?_) (fun c_6253 => ?_)
                          · skip
                            have hG := hG.trans (if_neg c_6253)
                            have gc_6253 := ti_ne c_6253 rfl kc_44
                            clear gc_6253
                            refine lv_iconst (v := 0) hx hb dX7_innerLine_183 (by decide) ?_
                            refine lv_istore (lv' := [(4, .int 0), (3, .int x_6252), (6, .int 0), (5, .int x_6206), (2, .int x_6170), (0, .ref oM), (1, .int p0)]) hx hb dX7_innerLine_184 hl (by decide) rfl (fun ls hl => ?_)
                            refine lv_iload hx hb dX7_innerLine_186 (lv_at hl 0 rfl) ?_
                            refine lv_if_eq (tgt := 195) hx hb dX7_innerLine_188 (by decide) (fun _ => ?_) (fun c => absurd c (by decide))
                            refine lv_goto (tgt := 24) hx hb dX7_innerLine_195 (by decide) ?_
                            exact ih_n_6184 x_6252 0 x_6237 x_6238 x_6239 x_6240 x_6241 z_6209 z_6210 z_6208 f_6242 f_6251 f_6247 _ _ _ b_x_6238 b_x_6241 b_z_6208 ⟨(om_83b90de5 hi0_n_6184.1 vx_6252), (om_2c69d3de gc_6236 vx_6252)⟩ ⟨(om_b1de7dbe kc_0), (om_270f4ea0 kc_0)⟩ (by assumption) (by rw [show x_6252.toNatClampNeg = z_6171.toNatClampNeg + 1 from (by have q1 := ti_cl (x := x_6252) vx_6252 (om_9548a8fd hi0_n_6184.1); have q2 := ti_cl (x := z_6171) rfl hi0_n_6184.1; omega)]; exact in9) ⟨(om_216d7917 hi4_n_6184.1 o1_f_6251), (om_216d7917 hi4_n_6184.2.1 o7_f_6251), (om_216d7917 hi4_n_6184.2.2 o8_f_6251)⟩ (fun h9 => (om_285f573d hi0_n_6184.1 vx_6252)) e_x_6237_1 (om_9348f5ae hi7_n_6184 e_x_6237_0) (fun h9 => (om_7ed234da hi7_n_6184 (e_x_6237_2 ⟨(om_02e9bb08 gc_6213), h9.2⟩))) (ms_lt hm_n_6184 (om_ed22490e vx_6252) (om_36ac28fa gc_6236)) hG hP hD hS (lv_sub hl [0, 1, 4, 5, 6] rfl)
                          · skip
                            have hG := hG.trans (if_pos c_6253)
                            have gc_6253 := ti_eq c_6253 rfl kc_44
                            refine lv_iconst (v := 1) hx hb dX7_innerLine_179 (by decide) ?_
                            refine lv_goto (tgt := 184) hx hb dX7_innerLine_180 (by decide) ?_
                            refine lv_istore (lv' := [(4, .int 1), (3, .int x_6252), (6, .int 0), (5, .int x_6206), (2, .int x_6170), (0, .ref oM), (1, .int p0)]) hx hb dX7_innerLine_184 hl (by decide) rfl (fun ls hl => ?_)
                            refine lv_iload hx hb dX7_innerLine_186 (lv_at hl 0 rfl) ?_
                            refine lv_if_eq (tgt := 195) hx hb dX7_innerLine_188 (by decide) (fun c => absurd c (by decide)) (fun _ => ?_)
                            refine lv_aload_n hx hb dX7_innerLine_191 rfl (lv_at hl 5 rfl) ?_
                            have hMs := ml_of hD [true, true, true, false, false, false] (wc := [(oc7 oM iM_thrown rM_tape iM_taped iM_size x_6237 x_6238 x_6239 x_6240 x_6241 z_6209 z_6210 iM_trouble rM_letters z_6208 iM_hasCourt rM_r rM_fresh rM_told rM_read rM_st rM_undone rM_kept iM_undos iM_images rM_fresher x_6167 iM_scale iM_night rM_heardRow rM_cutRow iM_breaths iM_cutMany iM_allBreaths rM_trial rM_words iM_fewestBreaths iM_orderMany iM_orderSum iM_leastOrder rM_often iM_setMany iM_someOf iM_allOf iM_allWeight iM_enoughWeight iM_worthSum iM_firstRest iM_leastDrawn), (arI rM_tape kM_tape 900 fM_tape), (arI rM_letters kM_letters 8 f_6242)]) rfl
                            have hFc := va_freeM hD hS hA _ hMs
                            refine va_callv (va_runV (As := []) (rest := []) ⟨hx, hb, hml, hown, hts⟩ (tX7_next l dC dI _ oM iM_thrown rM_tape fM_tape kM_tape iM_taped iM_size x_6237 x_6238 x_6239 x_6240 x_6241 z_6209 z_6210 iM_trouble rM_letters f_6242 kM_letters z_6208 iM_hasCourt rM_r rM_fresh rM_told rM_read rM_st rM_undone rM_kept iM_undos iM_images rM_fresher x_6167 iM_scale iM_night rM_heardRow rM_cutRow iM_breaths iM_cutMany iM_allBreaths rM_trial rM_words iM_fewestBreaths iM_orderMany iM_orderSum iM_leastOrder rM_often iM_setMany iM_someOf iM_allOf iM_allWeight iM_enoughWeight iM_worthSum iM_firstRest iM_leastDrawn b_iM_taped b_iM_size b_x_6238 b_x_6241 b_z_6208 b_iM_hasCourt b_iM_undos b_iM_images b_iM_scale b_iM_breaths b_iM_cutMany e_x_6237_1) (cwV 0 hts (wd_V wd_400 wd_401 wd_402 wd_5 (wd_c wd_403)) rfl rfl rfl dv_yX7_next_0 ⟨Nat.le_of_ble_eq_true rfl, Nat.le_of_ble_eq_true rfl⟩) ⟨Pw.fb, recvX7 hK hP (q0 := 0) rfl, fun U hU hW => Pw.to (hP.ms _ hMs) (hD.ms _ hMs) (hK.ms [true, true, false, false, false] rfl) hE hS hFc hU hW⟩ rfl rfl hl.1 rfl (lv_room (Nat.le_of_ble_eq_true rfl)) dX7_innerLine_192 ⟨Nat.le_of_ble_eq_true rfl, Nat.le_of_ble_eq_true rfl⟩) hS (fun q _ h => hFc q h) hFc (fun u t H locs ht hvm hw hB hz1 hk1 hS => ?_)
                            refine ex_6_6 hB (fun x_6256 x_6257 x_6258 x_6259 x_6260 f_6261 b_x_6257 b_x_6260 e_x_6256_0 e_x_6256_1 e_x_6256_2 e_x_6256_3 hB => ?_)
                            obtain ⟨hP, hD⟩ := Bw.goN (ws' := [(oc7 oM iM_thrown rM_tape iM_taped iM_size x_6256 x_6257 x_6258 x_6259 x_6260 z_6209 z_6210 iM_trouble rM_letters z_6208 iM_hasCourt rM_r rM_fresh rM_told rM_read rM_st rM_undone rM_kept iM_undos iM_images rM_fresher x_6167 iM_scale iM_night rM_heardRow rM_cutRow iM_breaths iM_cutMany iM_allBreaths rM_trial rM_words iM_fewestBreaths iM_orderMany iM_orderSum iM_leastOrder rM_often iM_setMany iM_someOf iM_allOf iM_allWeight iM_enoughWeight iM_worthSum iM_firstRest iM_leastDrawn), (arI rM_tape kM_tape 900 fM_tape), (arI rM_letters kM_letters 8 f_6261), (arI rM_fresh kM_fresh 287 f_6251), (arI rM_read kM_read 90 f_6247), (arI rM_fresher kM_fresher 8 f_6169)]) hB rfl ht hP hD _ hMs hk1 hFc rfl
                            clear hz1 hk1 hvm ht hB hMs
                            have hG := hG.trans (un6_eq e_x_6256_3)
                            clear e_x_6237_1
                            clear e_x_6237_2
                            refine lv_goto (tgt := 24) hx hb dX7_innerLine_195 (by decide) ?_
                            exact ih_n_6184 x_6252 1 x_6256 x_6257 x_6258 x_6259 x_6260 z_6209 z_6210 z_6208 f_6261 f_6251 f_6247 _ _ _ b_x_6257 b_x_6260 b_z_6208 ⟨(om_83b90de5 hi0_n_6184.1 vx_6252), (om_2c69d3de gc_6236 vx_6252)⟩ ⟨(om_1b364b1c kc_1), (om_02032f93 kc_1)⟩ (by assumption) (by rw [show x_6252.toNatClampNeg = z_6171.toNatClampNeg + 1 from (by have q1 := ti_cl (x := x_6252) vx_6252 (om_9548a8fd hi0_n_6184.1); have q2 := ti_cl (x := z_6171) rfl hi0_n_6184.1; omega)]; exact in9) ⟨(om_216d7917 hi4_n_6184.1 o1_f_6251), (om_216d7917 hi4_n_6184.2.1 o7_f_6251), (om_216d7917 hi4_n_6184.2.2 o8_f_6251)⟩ (fun h9 => (om_285f573d hi0_n_6184.1 vx_6252)) e_x_6256_1 (om_622f2a87 hi7_n_6184 e_x_6237_0 e_x_6256_0) (fun h9 => (om_2d38588c hi7_n_6184 e_x_6237_0 (e_x_6256_2 h9.2))) (ms_lt hm_n_6184 (om_ed22490e vx_6252) (om_36ac28fa gc_6236)) hG hP hD hS (lv_sub hl [0, 1, 4, 5, 6] rfl)
                        · skip
                          have hG := hG.trans (if_neg c_6244)
                          have gc_6244 := ti_ne c_6244 rfl kc_0
                          replace gc_6244 : z_6208.toInt + 1 ≤ 0 := om_f992525b gc_6244 gc_6213
                          exact ((om_5185113d b_z_6208.1 gc_6244)).elim
                      · skip
                        have hG := hG.trans (if_pos c_6243)
                        have gc_6243 := ti_eq c_6243 rfl kc_3
                        have h_6262 : (fM_fresh 8).toInt ≤ 1 := hic ⟨(om_02e9bb08 gc_6157), (om_ce492ef9 hp0.2 gc_6243)⟩
                        clear hic
                        refine lv_aload_n hx hb dX7_innerLine_119 rfl (lv_at hl 5 rfl) ?_
                        refine lv_iconst (v := 1) hx hb dX7_innerLine_120 (by decide) ?_
                        refine lv_bipush (v := 9) hx hb dX7_innerLine_121 (by decide) ?_
                        have hMs := ml_of hD [true, true, true, false, false, false] (wc := [(oc7 oM iM_thrown rM_tape iM_taped iM_size x_6237 x_6238 x_6239 x_6240 x_6241 z_6209 z_6210 iM_trouble rM_letters z_6208 iM_hasCourt rM_r rM_fresh rM_told rM_read rM_st rM_undone rM_kept iM_undos iM_images rM_fresher x_6167 iM_scale iM_night rM_heardRow rM_cutRow iM_breaths iM_cutMany iM_allBreaths rM_trial rM_words iM_fewestBreaths iM_orderMany iM_orderSum iM_leastOrder rM_often iM_setMany iM_someOf iM_allOf iM_allWeight iM_enoughWeight iM_worthSum iM_firstRest iM_leastDrawn), (arI rM_tape kM_tape 900 fM_tape), (arI rM_letters kM_letters 8 f_6242)]) rfl
                        have hFc := va_freeM hD hS hA _ hMs
                        refine va_calli (va_runV (As := [.int 1, .int 9]) (rest := []) ⟨hx, hb, hml, hown, hts⟩ (tX7_number l dC dI _ oM iM_thrown rM_tape fM_tape kM_tape iM_taped iM_size x_6237 x_6238 x_6239 x_6240 x_6241 z_6209 z_6210 iM_trouble rM_letters f_6242 kM_letters z_6208 iM_hasCourt rM_r rM_fresh rM_told rM_read rM_st rM_undone rM_kept iM_undos iM_images rM_fresher x_6167 iM_scale iM_night rM_heardRow rM_cutRow iM_breaths iM_cutMany iM_allBreaths rM_trial rM_words iM_fewestBreaths iM_orderMany iM_orderSum iM_leastOrder rM_often iM_setMany iM_someOf iM_allOf iM_allWeight iM_enoughWeight iM_worthSum iM_firstRest iM_leastDrawn 1 9 b_iM_taped b_iM_size b_x_6238 b_x_6241 b_z_6208 b_iM_hasCourt b_iM_undos b_iM_images b_iM_scale b_iM_breaths b_iM_cutMany e_x_6237_1 (om_dc317686 kc_1 kc_9)) (cwV 2 hts (wd_V wd_446 wd_447 wd_448 wd_5 (wd_c wd_449)) rfl rfl rfl dv_yX7_number_2 ⟨Nat.le_of_ble_eq_true rfl, Nat.le_of_ble_eq_true rfl⟩) ⟨Pw.fb, recvX7 hK hP (q0 := 0) rfl, fun U hU hW => Pw.to (hP.ms _ hMs) (hD.ms _ hMs) (hK.ms [true, true, false, false, false] rfl) hE hS hFc hU hW⟩ rfl rfl hl.1 rfl (lv_room (Nat.le_of_ble_eq_true rfl)) dX7_innerLine_123 ⟨Nat.le_of_ble_eq_true rfl, Nat.le_of_ble_eq_true rfl⟩) hS (fun q _ h => hFc q h) hFc (fun r u t H locs ht hvm hw hB hz1 hk1 hS => ?_)
                        have hru9 := hw.2
                        have hw := hw.1
                        refine ex_9_8 hB (fun x_6263 x_6264 x_6265 x_6266 x_6267 x_6268 x_6269 x_6270 f_6271 b_x_6264 b_x_6267 b_x_6270 e_x_6263_0 e_x_6263_1 e_x_6263_2 e_x_6263_3 e_x_6263_4 hB => ?_)
                        obtain ⟨hP, hD⟩ := Bw.goN (ws' := [(oc7 oM iM_thrown rM_tape iM_taped iM_size x_6263 x_6264 x_6265 x_6266 x_6267 x_6268 x_6269 iM_trouble rM_letters x_6270 iM_hasCourt rM_r rM_fresh rM_told rM_read rM_st rM_undone rM_kept iM_undos iM_images rM_fresher x_6167 iM_scale iM_night rM_heardRow rM_cutRow iM_breaths iM_cutMany iM_allBreaths rM_trial rM_words iM_fewestBreaths iM_orderMany iM_orderSum iM_leastOrder rM_often iM_setMany iM_someOf iM_allOf iM_allWeight iM_enoughWeight iM_worthSum iM_firstRest iM_leastDrawn), (arI rM_tape kM_tape 900 fM_tape), (arI rM_letters kM_letters 8 f_6271), (arI rM_fresh kM_fresh 287 f_6182), (arI rM_read kM_read 90 f_6183), (arI rM_fresher kM_fresher 8 f_6169)]) hB rfl ht hP hD _ hMs hk1 hFc rfl
                        clear hz1 hk1 hvm ht hB hMs
                        rw [← hru9] at e_x_6263_4
                        obtain ⟨x_6272, rfl⟩ : ∃ z, z = r := ⟨_, rfl⟩
                        have hG := hG.trans (un10_eq e_x_6263_4)
                        have lx_6272 := hw.2
                        have kl_1 := kc_1
                        have kl_9 := kc_9
                        clear e_x_6237_1
                        clear e_x_6237_2
                        refine lv_goto (tgt := 130) hx hb dX7_innerLine_126 (by decide) ?_
                        refine lv_istore (lv' := [(6, .int x_6272), (5, .int x_6206), (4, .int z_6172), (3, .int z_6171), (2, .int x_6170), (0, .ref oM), (1, .int p0)]) hx hb dX7_innerLine_130 hl (by decide) rfl (fun ls hl => ?_)
                        refine lv_aload_n hx hb dX7_innerLine_132 rfl (lv_at hl 5 rfl) ?_
                        refine va_get (D := (dC, dI)) (ci := 7) (v := .int x_6270) (C := RX7) (T := TX7) (N := 48) hx hb hts inX7 hown hK hP 0 rfl rfl 13 (by decide) (hts _ wd_380) (fun _ h9 => h9) rfl dX7_innerLine_133 ?_
                        refine lv_if_eq (tgt := 140) hx hb dX7_innerLine_136 (by decide) (fun c_6273 => ?_) (fun c_6273 => ?_)
                        · skip
                          have hG := hG.trans (if_pos c_6273)
                          have gc_6273 := ti_eq c_6273 rfl kc_0
                          refine lv_aload_n hx hb dX7_innerLine_140 rfl (lv_at hl 5 rfl) ?_
                          refine va_get (D := (dC, dI)) (ci := 7) (v := .ref rM_read) (C := RX7) (T := TX7) (N := 48) hx hb hts inX7 hown hK hP 0 rfl rfl 18 (by decide) (hts _ wd_158) (fun _ h9 => h9) rfl dX7_innerLine_141 ?_
                          refine lv_iconst (v := 4) hx hb dX7_innerLine_144 (by decide) ?_
                          refine lv_iload_n hx hb dX7_innerLine_145 rfl (lv_at hl 4 rfl) ?_
                          refine lv_imul hx hb dX7_innerLine_146 ?_
                          refine lv_topi (fun x_6274 ex_6274 => ?_)
                          have hG := hG.trans (lt_eq ex_6274)
                          have vx_6274 : x_6274.toInt = 4 * x_6170.toInt := ti_mul ex_6274 kc_4 rfl (om_9e6bb6a4 pl_fM_fresh.2.2.2.2.1.1 pl_fM_fresh.2.2.2.2.1.2 cx_6170) (om_7d3cae7d pl_fM_fresh.2.1 pl_fM_fresh.2.2.1.2 pl_fM_fresh.2.2.2.2.2.1.2 cx_6170)
                          refine lv_iload_n hx hb dX7_innerLine_147 rfl (lv_at hl 3 rfl) ?_
                          refine lv_iadd hx hb dX7_innerLine_148 ?_
                          refine lv_topi (fun x_6275 ex_6275 => ?_)
                          have hG := hG.trans (lt_eq ex_6275)
                          have vx_6275 : x_6275.toInt = 4 * x_6170.toInt + z_6171.toInt := om_5d0caf0f (ti_add ex_6275 vx_6274 rfl (om_80a5d224 pl_fM_fresh.2.2.2.2.1.1 pl_fM_fresh.2.2.2.2.1.2 cx_6170 hi0_n_6184.1) (om_65488096 pl_fM_fresh.2.1 pl_fM_fresh.2.2.1.2 pl_fM_fresh.2.2.2.2.2.1.2 cx_6170 hi0_n_6184.2))
                          refine lv_iload hx hb dX7_innerLine_149 (lv_at hl 1 rfl) ?_
                          refine va_iast hx hb hK hP hD hS 4 3 rfl rfl (ti_in vx_6275 (om_dcc527d7 pl_fM_fresh.2.2.2.2.1.1 pl_fM_fresh.2.2.2.2.1.2 cx_6170 hi0_n_6184.1) (om_1343fdf1 pl_fM_fresh.2.1 pl_fM_fresh.2.2.1.2 pl_fM_fresh.2.2.2.2.2.1.2 cx_6170 hi0_n_6184.2)) dX7_innerLine_151 (fun H locs hP hD hS => ?_)
                          obtain ⟨f_6276, ef_6276⟩ : ∃ g : Nat → Int32, g = upd f_6183 x_6275.toNatClampNeg x_6206 := ⟨_, rfl⟩
                          rw [← ef_6276] at hP hD
                          have hG := hG.trans (lt_eq ef_6276)
                          obtain ⟨hP, hD⟩ := wl2 (ws' := [(oc7 oM iM_thrown rM_tape iM_taped iM_size x_6263 x_6264 x_6265 x_6266 x_6267 x_6268 x_6269 iM_trouble rM_letters x_6270 iM_hasCourt rM_r rM_fresh rM_told rM_read rM_st rM_undone rM_kept iM_undos iM_images rM_fresher x_6167 iM_scale iM_night rM_heardRow rM_cutRow iM_breaths iM_cutMany iM_allBreaths rM_trial rM_words iM_fewestBreaths iM_orderMany iM_orderSum iM_leastOrder rM_often iM_setMany iM_someOf iM_allOf iM_allWeight iM_enoughWeight iM_worthSum iM_firstRest iM_leastDrawn), (arI rM_tape kM_tape 900 fM_tape), (arI rM_letters kM_letters 8 f_6271), (arI rM_fresh kM_fresh 287 f_6182), (arI rM_read kM_read 90 f_6276), (arI rM_fresher kM_fresher 8 f_6169)]) hP hD rfl
                          have q_n1 := ti_cl (x := f_6182 1) rfl (by omega)
                          have pk_f_6276 : POk f_6182 f_6276 := POk.prt hi2_n_6184 ef_6276 (by have q9 := ti_cl (x := x_6275) vx_6275 (om_dcc527d7 pl_fM_fresh.2.2.2.2.1.1 pl_fM_fresh.2.2.2.2.1.2 cx_6170 hi0_n_6184.1); omega) (by have q9 := ti_cl (x := x_6275) vx_6275 (om_dcc527d7 pl_fM_fresh.2.2.2.2.1.1 pl_fM_fresh.2.2.2.2.1.2 cx_6170 hi0_n_6184.1); omega)
                          refine lv_aload_n hx hb dX7_innerLine_152 rfl (lv_at hl 5 rfl) ?_
                          refine va_get (D := (dC, dI)) (ci := 7) (v := .ref rM_fresh) (C := RX7) (T := TX7) (N := 48) hx hb hts inX7 hown hK hP 0 rfl rfl 16 (by decide) (hts _ wd_156) (fun _ h9 => h9) rfl dX7_innerLine_153 ?_
                          refine lv_bipush (v := 45) hx hb dX7_innerLine_156 (by decide) ?_
                          refine lv_iconst (v := 4) hx hb dX7_innerLine_158 (by decide) ?_
                          refine lv_iload_n hx hb dX7_innerLine_159 rfl (lv_at hl 4 rfl) ?_
                          refine lv_imul hx hb dX7_innerLine_160 ?_
                          refine lv_topi (fun x_6277 ex_6277 => ?_)
                          have hG := hG.trans (lt_eq ex_6277)
                          have vx_6277 : x_6277.toInt = 4 * x_6170.toInt := ti_mul ex_6277 kc_4 rfl (om_9e6bb6a4 pl_fM_fresh.2.2.2.2.1.1 pl_fM_fresh.2.2.2.2.1.2 cx_6170) (om_7d3cae7d pl_fM_fresh.2.1 pl_fM_fresh.2.2.1.2 pl_fM_fresh.2.2.2.2.2.1.2 cx_6170)
                          refine lv_iadd hx hb dX7_innerLine_161 ?_
                          refine lv_topi (fun x_6278 ex_6278 => ?_)
                          have hG := hG.trans (lt_eq ex_6278)
                          have vx_6278 : x_6278.toInt = 4 * x_6170.toInt + 45 := om_702bf7ac (ti_add ex_6278 kc_45 vx_6277 (om_0c5ad906 pl_fM_fresh.2.2.2.2.1.1 pl_fM_fresh.2.2.2.2.1.2 cx_6170) (om_5da1924c pl_fM_fresh.2.1 pl_fM_fresh.2.2.1.2 pl_fM_fresh.2.2.2.2.2.1.2 cx_6170))
                          refine lv_iload_n hx hb dX7_innerLine_162 rfl (lv_at hl 3 rfl) ?_
                          refine lv_iadd hx hb dX7_innerLine_163 ?_
                          refine lv_topi (fun x_6279 ex_6279 => ?_)
                          have hG := hG.trans (lt_eq ex_6279)
                          have vx_6279 : x_6279.toInt = 4 * x_6170.toInt + z_6171.toInt + 45 := om_0ab12ad6 (ti_add ex_6279 vx_6278 rfl (om_563b8554 pl_fM_fresh.2.2.2.2.1.1 pl_fM_fresh.2.2.2.2.1.2 cx_6170 hi0_n_6184.1) (om_87f6ba8c pl_fM_fresh.2.1 pl_fM_fresh.2.2.1.2 pl_fM_fresh.2.2.2.2.2.1.2 cx_6170 hi0_n_6184.2))
                          refine lv_iload hx hb dX7_innerLine_164 (lv_at hl 0 rfl) ?_
                          refine va_iast hx hb hK hP hD hS 3 2 rfl rfl (ti_in vx_6279 (om_d2c9edc5 pl_fM_fresh.2.2.2.2.1.1 pl_fM_fresh.2.2.2.2.1.2 cx_6170 hi0_n_6184.1) (om_21e450b4 pl_fM_fresh.2.1 pl_fM_fresh.2.2.1.2 pl_fM_fresh.2.2.2.2.2.1.2 cx_6170 hi0_n_6184.2)) dX7_innerLine_166 (fun H locs hP hD hS => ?_)
                          obtain ⟨f_6280, ef_6280⟩ : ∃ g : Nat → Int32, g = upd f_6182 x_6279.toNatClampNeg x_6272 := ⟨_, rfl⟩
                          rw [← ef_6280] at hP hD
                          have hG := hG.trans (lt_eq ef_6280)
                          obtain ⟨hP, hD⟩ := wl2 (ws' := [(oc7 oM iM_thrown rM_tape iM_taped iM_size x_6263 x_6264 x_6265 x_6266 x_6267 x_6268 x_6269 iM_trouble rM_letters x_6270 iM_hasCourt rM_r rM_fresh rM_told rM_read rM_st rM_undone rM_kept iM_undos iM_images rM_fresher x_6167 iM_scale iM_night rM_heardRow rM_cutRow iM_breaths iM_cutMany iM_allBreaths rM_trial rM_words iM_fewestBreaths iM_orderMany iM_orderSum iM_leastOrder rM_often iM_setMany iM_someOf iM_allOf iM_allWeight iM_enoughWeight iM_worthSum iM_firstRest iM_leastDrawn), (arI rM_tape kM_tape 900 fM_tape), (arI rM_letters kM_letters 8 f_6271), (arI rM_fresh kM_fresh 287 f_6280), (arI rM_read kM_read 90 f_6276), (arI rM_fresher kM_fresher 8 f_6169)]) hP hD rfl
                          have pk_f_6280 : POk f_6280 f_6276 := POk.put pk_f_6276 ef_6280 (Or.inr (Or.inr (Or.inr (Or.inr (Or.inr (Or.inl (by have q9 := ti_cl (x := x_6279) vx_6279 (om_d2c9edc5 pl_fM_fresh.2.2.2.2.1.1 pl_fM_fresh.2.2.2.2.1.2 cx_6170 hi0_n_6184.1); omega)))))))
                          have pl_f_6280 := pk_f_6280.lins
                          have nn9 : (f_6182 1).toNatClampNeg = x_6170.toNatClampNeg := by have q1 := ti_cl (x := x_6170) rfl (om_1ab2c227 pl_fM_fresh.2.2.2.2.1.1 pl_fM_fresh.2.2.2.2.1.2 cx_6170); have q2 := ti_cl (x := f_6182 1) rfl (by omega); have q3 := ti_cl (x := z_6171) rfl hi0_n_6184.1; omega
                          have in9 : InOk f_6280 f_6276 (f_6280 1).toNatClampNeg (z_6171.toNatClampNeg + 1) p0.toInt := in_step hi3_n_6184 rfl ef_6276 (by have q1 := ti_cl (x := x_6170) rfl (om_1ab2c227 pl_fM_fresh.2.2.2.2.1.1 pl_fM_fresh.2.2.2.2.1.2 cx_6170); have q2 := ti_cl (x := f_6182 1) rfl (by omega); have q3 := ti_cl (x := z_6171) rfl hi0_n_6184.1; have q9 := ti_cl (x := x_6275) vx_6275 (om_dcc527d7 pl_fM_fresh.2.2.2.2.1.1 pl_fM_fresh.2.2.2.2.1.2 cx_6170 hi0_n_6184.1); omega) ef_6280 (by have q1 := ti_cl (x := x_6170) rfl (om_1ab2c227 pl_fM_fresh.2.2.2.2.1.1 pl_fM_fresh.2.2.2.2.1.2 cx_6170); have q2 := ti_cl (x := f_6182 1) rfl (by omega); have q3 := ti_cl (x := z_6171) rfl hi0_n_6184.1; have q9 := ti_cl (x := x_6279) vx_6279 (om_d2c9edc5 pl_fM_fresh.2.2.2.2.1.1 pl_fM_fresh.2.2.2.2.1.2 cx_6170 hi0_n_6184.1); omega) (by omega) (by have q1 := ti_cl (x := x_6170) rfl (om_1ab2c227 pl_fM_fresh.2.2.2.2.1.1 pl_fM_fresh.2.2.2.2.1.2 cx_6170); have q2 := ti_cl (x := f_6182 1) rfl (by omega); have q3 := ti_cl (x := z_6171) rfl hi0_n_6184.1; omega) (fun i9 h9 => by rw [nn9]; exact hi2_n_6211 (by omega) i9 (by have q1 := ti_cl (x := x_6170) rfl (om_1ab2c227 pl_fM_fresh.2.2.2.2.1.1 pl_fM_fresh.2.2.2.2.1.2 cx_6170); have q2 := ti_cl (x := f_6182 1) rfl (by omega); have q3 := ti_cl (x := z_6171) rfl hi0_n_6184.1; have q4 := ti_cl (x := z_6207) rfl hi0_n_6211.1; omega)) (fun h9 => by have q0 := kc_0; omega) rfl
                          have o1_f_6280 : (f_6280 1).toInt = (f_6182 1).toInt := put_at ef_6280 (Nat.ne_of_lt (om_9b872883 (ti_cl (x := x_6279) vx_6279 (om_d2c9edc5 pl_fM_fresh.2.2.2.2.1.1 pl_fM_fresh.2.2.2.2.1.2 cx_6170 hi0_n_6184.1)) pl_fM_fresh.2.2.2.2.1.1 pl_fM_fresh.2.2.2.2.1.2 cx_6170 hi0_n_6184.1))
                          have o7_f_6280 : (f_6280 7).toInt = (f_6182 7).toInt := put_at ef_6280 (Nat.ne_of_lt (om_58da8a1c (ti_cl (x := x_6279) vx_6279 (om_d2c9edc5 pl_fM_fresh.2.2.2.2.1.1 pl_fM_fresh.2.2.2.2.1.2 cx_6170 hi0_n_6184.1)) pl_fM_fresh.2.2.2.2.1.1 pl_fM_fresh.2.2.2.2.1.2 cx_6170 hi0_n_6184.1))
                          have o8_f_6280 : (f_6280 8).toInt = (f_6182 8).toInt := put_at ef_6280 (Nat.ne_of_lt (om_f4400bad (ti_cl (x := x_6279) vx_6279 (om_d2c9edc5 pl_fM_fresh.2.2.2.2.1.1 pl_fM_fresh.2.2.2.2.1.2 cx_6170 hi0_n_6184.1)) pl_fM_fresh.2.2.2.2.1.1 pl_fM_fresh.2.2.2.2.1.2 cx_6170 hi0_n_6184.1))
                          obtain ⟨x_6281, ex_6281⟩ : ∃ z : Int32, z = z_6171 + Int32.ofInt 1 := ⟨_, rfl⟩
                          have hG := hG.trans (lt_eq ex_6281)
                          have vx_6281 : x_6281.toInt = z_6171.toInt + 1 := ti_add (y := 1) ex_6281 rfl kc_1 (om_4e4fce7e hi0_n_6184.1) (om_bae2951a hi0_n_6184.2)
                          refine lv_iinc (v := x_6281) (lv' := [(3, .int x_6281), (6, .int x_6272), (5, .int x_6206), (4, .int z_6172), (2, .int x_6170), (0, .ref oM), (1, .int p0)]) hx hb dX7_innerLine_167 hl (k := 3) rfl ex_6281.symm (by decide) rfl (fun ls hl => ?_)
                          refine lv_aload_n hx hb dX7_innerLine_170 rfl (lv_at hl 5 rfl) ?_
                          refine va_get (D := (dC, dI)) (ci := 7) (v := .int x_6265) (C := RX7) (T := TX7) (N := 48) hx hb hts inX7 hown hK hP 0 rfl rfl 6 (by decide) (hts _ wd_383) (fun _ h9 => h9) rfl dX7_innerLine_171 ?_
                          refine lv_bipush (v := 44) hx hb dX7_innerLine_174 (by decide) ?_
                          refine lv_icmp_ne (tgt := 183) hx hb dX7_innerLine_176 (by decide) (fun c_6282 => ?_) (fun c_6282 => ?_)
                          · skip
                            have hG := hG.trans (if_neg c_6282)
                            have gc_6282 := ti_ne c_6282 rfl kc_44
                            clear gc_6282
                            refine lv_iconst (v := 0) hx hb dX7_innerLine_183 (by decide) ?_
                            refine lv_istore (lv' := [(4, .int 0), (3, .int x_6281), (6, .int x_6272), (5, .int x_6206), (2, .int x_6170), (0, .ref oM), (1, .int p0)]) hx hb dX7_innerLine_184 hl (by decide) rfl (fun ls hl => ?_)
                            refine lv_iload hx hb dX7_innerLine_186 (lv_at hl 0 rfl) ?_
                            refine lv_if_eq (tgt := 195) hx hb dX7_innerLine_188 (by decide) (fun _ => ?_) (fun c => absurd c (by decide))
                            refine lv_goto (tgt := 24) hx hb dX7_innerLine_195 (by decide) ?_
                            exact ih_n_6184 x_6281 0 x_6263 x_6264 x_6265 x_6266 x_6267 x_6268 x_6269 x_6270 f_6271 f_6280 f_6276 _ _ _ b_x_6264 b_x_6267 b_x_6270 ⟨(om_83b90de5 hi0_n_6184.1 vx_6281), (om_2c69d3de gc_6236 vx_6281)⟩ ⟨(om_b1de7dbe kc_0), (om_270f4ea0 kc_0)⟩ (by assumption) (by rw [show x_6281.toNatClampNeg = z_6171.toNatClampNeg + 1 from (by have q1 := ti_cl (x := x_6281) vx_6281 (om_9548a8fd hi0_n_6184.1); have q2 := ti_cl (x := z_6171) rfl hi0_n_6184.1; omega)]; exact in9) ⟨(om_216d7917 hi4_n_6184.1 o1_f_6280), (om_216d7917 hi4_n_6184.2.1 o7_f_6280), (om_216d7917 hi4_n_6184.2.2 o8_f_6280)⟩ (fun h9 => (om_285f573d hi0_n_6184.1 vx_6281)) e_x_6263_1 (om_622f2a87 hi7_n_6184 e_x_6237_0 e_x_6263_0) (fun h9 => (om_2d38588c hi7_n_6184 e_x_6237_0 (e_x_6263_3 ⟨(om_02e9bb08 gc_6273), h9.2⟩))) (ms_lt hm_n_6184 (om_ed22490e vx_6281) (om_36ac28fa gc_6236)) hG hP hD hS (lv_sub hl [0, 1, 4, 5, 6] rfl)
                          · skip
                            have hG := hG.trans (if_pos c_6282)
                            have gc_6282 := ti_eq c_6282 rfl kc_44
                            refine lv_iconst (v := 1) hx hb dX7_innerLine_179 (by decide) ?_
                            refine lv_goto (tgt := 184) hx hb dX7_innerLine_180 (by decide) ?_
                            refine lv_istore (lv' := [(4, .int 1), (3, .int x_6281), (6, .int x_6272), (5, .int x_6206), (2, .int x_6170), (0, .ref oM), (1, .int p0)]) hx hb dX7_innerLine_184 hl (by decide) rfl (fun ls hl => ?_)
                            refine lv_iload hx hb dX7_innerLine_186 (lv_at hl 0 rfl) ?_
                            refine lv_if_eq (tgt := 195) hx hb dX7_innerLine_188 (by decide) (fun c => absurd c (by decide)) (fun _ => ?_)
                            refine lv_aload_n hx hb dX7_innerLine_191 rfl (lv_at hl 5 rfl) ?_
                            have hMs := ml_of hD [true, true, true, false, false, false] (wc := [(oc7 oM iM_thrown rM_tape iM_taped iM_size x_6263 x_6264 x_6265 x_6266 x_6267 x_6268 x_6269 iM_trouble rM_letters x_6270 iM_hasCourt rM_r rM_fresh rM_told rM_read rM_st rM_undone rM_kept iM_undos iM_images rM_fresher x_6167 iM_scale iM_night rM_heardRow rM_cutRow iM_breaths iM_cutMany iM_allBreaths rM_trial rM_words iM_fewestBreaths iM_orderMany iM_orderSum iM_leastOrder rM_often iM_setMany iM_someOf iM_allOf iM_allWeight iM_enoughWeight iM_worthSum iM_firstRest iM_leastDrawn), (arI rM_tape kM_tape 900 fM_tape), (arI rM_letters kM_letters 8 f_6271)]) rfl
                            have hFc := va_freeM hD hS hA _ hMs
                            refine va_callv (va_runV (As := []) (rest := []) ⟨hx, hb, hml, hown, hts⟩ (tX7_next l dC dI _ oM iM_thrown rM_tape fM_tape kM_tape iM_taped iM_size x_6263 x_6264 x_6265 x_6266 x_6267 x_6268 x_6269 iM_trouble rM_letters f_6271 kM_letters x_6270 iM_hasCourt rM_r rM_fresh rM_told rM_read rM_st rM_undone rM_kept iM_undos iM_images rM_fresher x_6167 iM_scale iM_night rM_heardRow rM_cutRow iM_breaths iM_cutMany iM_allBreaths rM_trial rM_words iM_fewestBreaths iM_orderMany iM_orderSum iM_leastOrder rM_often iM_setMany iM_someOf iM_allOf iM_allWeight iM_enoughWeight iM_worthSum iM_firstRest iM_leastDrawn b_iM_taped b_iM_size b_x_6264 b_x_6267 b_x_6270 b_iM_hasCourt b_iM_undos b_iM_images b_iM_scale b_iM_breaths b_iM_cutMany e_x_6263_1) (cwV 0 hts (wd_V wd_400 wd_401 wd_402 wd_5 (wd_c wd_403)) rfl rfl rfl dv_yX7_next_0 ⟨Nat.le_of_ble_eq_true rfl, Nat.le_of_ble_eq_true rfl⟩) ⟨Pw.fb, recvX7 hK hP (q0 := 0) rfl, fun U hU hW => Pw.to (hP.ms _ hMs) (hD.ms _ hMs) (hK.ms [true, true, false, false, false] rfl) hE hS hFc hU hW⟩ rfl rfl hl.1 rfl (lv_room (Nat.le_of_ble_eq_true rfl)) dX7_innerLine_192 ⟨Nat.le_of_ble_eq_true rfl, Nat.le_of_ble_eq_true rfl⟩) hS (fun q _ h => hFc q h) hFc (fun u t H locs ht hvm hw hB hz1 hk1 hS => ?_)
                            refine ex_6_6 hB (fun x_6285 x_6286 x_6287 x_6288 x_6289 f_6290 b_x_6286 b_x_6289 e_x_6285_0 e_x_6285_1 e_x_6285_2 e_x_6285_3 hB => ?_)
                            obtain ⟨hP, hD⟩ := Bw.goN (ws' := [(oc7 oM iM_thrown rM_tape iM_taped iM_size x_6285 x_6286 x_6287 x_6288 x_6289 x_6268 x_6269 iM_trouble rM_letters x_6270 iM_hasCourt rM_r rM_fresh rM_told rM_read rM_st rM_undone rM_kept iM_undos iM_images rM_fresher x_6167 iM_scale iM_night rM_heardRow rM_cutRow iM_breaths iM_cutMany iM_allBreaths rM_trial rM_words iM_fewestBreaths iM_orderMany iM_orderSum iM_leastOrder rM_often iM_setMany iM_someOf iM_allOf iM_allWeight iM_enoughWeight iM_worthSum iM_firstRest iM_leastDrawn), (arI rM_tape kM_tape 900 fM_tape), (arI rM_letters kM_letters 8 f_6290), (arI rM_fresh kM_fresh 287 f_6280), (arI rM_read kM_read 90 f_6276), (arI rM_fresher kM_fresher 8 f_6169)]) hB rfl ht hP hD _ hMs hk1 hFc rfl
                            clear hz1 hk1 hvm ht hB hMs
                            have hG := hG.trans (un6_eq e_x_6285_3)
                            clear e_x_6263_1
                            clear e_x_6263_3
                            refine lv_goto (tgt := 24) hx hb dX7_innerLine_195 (by decide) ?_
                            exact ih_n_6184 x_6281 1 x_6285 x_6286 x_6287 x_6288 x_6289 x_6268 x_6269 x_6270 f_6290 f_6280 f_6276 _ _ _ b_x_6286 b_x_6289 b_x_6270 ⟨(om_83b90de5 hi0_n_6184.1 vx_6281), (om_2c69d3de gc_6236 vx_6281)⟩ ⟨(om_1b364b1c kc_1), (om_02032f93 kc_1)⟩ (by assumption) (by rw [show x_6281.toNatClampNeg = z_6171.toNatClampNeg + 1 from (by have q1 := ti_cl (x := x_6281) vx_6281 (om_9548a8fd hi0_n_6184.1); have q2 := ti_cl (x := z_6171) rfl hi0_n_6184.1; omega)]; exact in9) ⟨(om_216d7917 hi4_n_6184.1 o1_f_6280), (om_216d7917 hi4_n_6184.2.1 o7_f_6280), (om_216d7917 hi4_n_6184.2.2 o8_f_6280)⟩ (fun h9 => (om_285f573d hi0_n_6184.1 vx_6281)) e_x_6285_1 (om_dc41b317 hi7_n_6184 e_x_6237_0 e_x_6263_0 e_x_6285_0) (fun h9 => (om_67b34c44 hi7_n_6184 e_x_6237_0 e_x_6263_0 (e_x_6285_2 h9.2))) (ms_lt hm_n_6184 (om_ed22490e vx_6281) (om_36ac28fa gc_6236)) hG hP hD hS (lv_sub hl [0, 1, 4, 5, 6] rfl)
                        · skip
                          have hG := hG.trans (if_neg c_6273)
                          have gc_6273 := ti_ne c_6273 rfl kc_0
                          replace gc_6273 : (-1) * x_6270.toInt + 1 ≤ 0 := om_e3003f79 gc_6273 b_x_6270.1
                          exact wq_v hx hb hr 0 trivial (fun t ht hW => ⟨x_6263, x_6264, x_6265, x_6266, x_6267, x_6268, x_6269, x_6270, x_6167, f_6271, f_6182, f_6183, f_6169, b_x_6264, b_x_6267, b_x_6270, (om_622f2a87 hi7_n_6184 e_x_6237_0 e_x_6263_0), e_x_6263_1, (om_1fc3dec6 gc_6157 b_x_6270.1), (fun h9 => False.elim (om_a5fe015d gc_6273 h9.1)), hi2_n_6184, hG, Bw.to hP hD hK ht hW⟩) hS dX7_innerLine_139 hlocks
                    · skip
                      have hG := hG.trans (if_pos c_6236)
                      have gc_6236 := ti_eq c_6236 rfl kc_4
                      refine lv_aload_n hx hb dX7_innerLine_101 rfl (lv_at hl 5 rfl) ?_
                      refine lv_iconst (v := 5) hx hb dX7_innerLine_102 (by decide) ?_
                      refine lv_aload_n hx hb dX7_innerLine_103 rfl (lv_at hl 5 rfl) ?_
                      refine va_get (D := (dC, dI)) (ci := 7) (v := .int z_6173) (C := RX7) (T := TX7) (N := 48) hx hb hts inX7 hown hK hP 0 rfl rfl 4 (by decide) (hts _ wd_384) (fun _ h9 => h9) rfl dX7_innerLine_104 ?_
                      have hMs := ml_of hD [true, false, false, false, false, false] (wc := [(oc7 oM iM_thrown rM_tape iM_taped iM_size z_6173 z_6174 z_6175 z_6176 z_6177 z_6209 z_6210 iM_trouble rM_letters z_6208 iM_hasCourt rM_r rM_fresh rM_told rM_read rM_st rM_undone rM_kept iM_undos iM_images rM_fresher x_6167 iM_scale iM_night rM_heardRow rM_cutRow iM_breaths iM_cutMany iM_allBreaths rM_trial rM_words iM_fewestBreaths iM_orderMany iM_orderSum iM_leastOrder rM_often iM_setMany iM_someOf iM_allOf iM_allWeight iM_enoughWeight iM_worthSum iM_firstRest iM_leastDrawn)]) rfl
                      have hFc := va_freeM hD hS hA _ hMs
                      refine va_callv (va_runV (As := [.int 5, .int z_6173]) (rest := []) ⟨hx, hb, hml, hown, hts⟩ (tX7_wrong l dC dI _ oM iM_thrown rM_tape iM_taped iM_size z_6173 z_6174 z_6175 z_6176 z_6177 z_6209 z_6210 iM_trouble rM_letters z_6208 iM_hasCourt rM_r rM_fresh rM_told rM_read rM_st rM_undone rM_kept iM_undos iM_images rM_fresher x_6167 iM_scale iM_night rM_heardRow rM_cutRow iM_breaths iM_cutMany iM_allBreaths rM_trial rM_words iM_fewestBreaths iM_orderMany iM_orderSum iM_leastOrder rM_often iM_setMany iM_someOf iM_allOf iM_allWeight iM_enoughWeight iM_worthSum iM_firstRest iM_leastDrawn 5 z_6173 b_iM_taped b_iM_size b_z_6174 b_z_6177 b_z_6208 b_iM_hasCourt b_iM_undos b_iM_images b_iM_scale b_iM_breaths b_iM_cutMany hi6_n_6184) (cwV 2 hts (wd_V wd_430 wd_431 wd_432 wd_5 (wd_c wd_433)) rfl rfl rfl dv_yX7_wrong_2 ⟨Nat.le_of_ble_eq_true rfl, Nat.le_of_ble_eq_true rfl⟩) ⟨Pw.fb, recvX7 hK hP (q0 := 0) rfl, fun U hU hW => Pw.to (hP.ms _ hMs) (hD.ms _ hMs) (hK.ms [false, false, false, false, false] rfl) hE hS hFc hU hW⟩ rfl rfl hl.1 rfl (lv_room (Nat.le_of_ble_eq_true rfl)) dX7_innerLine_107 ⟨Nat.le_of_ble_eq_true rfl, Nat.le_of_ble_eq_true rfl⟩) hS (fun q _ h => hFc q h) hFc (fun u t H locs ht hvm hw hB hz1 hk1 hS => ?_)
                      refine ex_3_3 hB (fun x_6291 x_6292 x_6293 b_x_6293 e_x_6291_0 e_x_6291_1 hB => ?_)
                      obtain ⟨hP, hD⟩ := Bw.goN (ws' := [(oc7 oM iM_thrown rM_tape iM_taped iM_size z_6173 z_6174 z_6175 z_6176 z_6177 x_6291 x_6292 iM_trouble rM_letters x_6293 iM_hasCourt rM_r rM_fresh rM_told rM_read rM_st rM_undone rM_kept iM_undos iM_images rM_fresher x_6167 iM_scale iM_night rM_heardRow rM_cutRow iM_breaths iM_cutMany iM_allBreaths rM_trial rM_words iM_fewestBreaths iM_orderMany iM_orderSum iM_leastOrder rM_often iM_setMany iM_someOf iM_allOf iM_allWeight iM_enoughWeight iM_worthSum iM_firstRest iM_leastDrawn), (arI rM_tape kM_tape 900 fM_tape), (arI rM_letters kM_letters 8 f_6181), (arI rM_fresh kM_fresh 287 f_6182), (arI rM_read kM_read 90 f_6183), (arI rM_fresher kM_fresher 8 f_6169)]) hB rfl ht hP hD _ hMs hk1 hFc rfl
                      clear hz1 hk1 hvm ht hB hMs
                      have hG := hG.trans (un3_eq e_x_6291_1)
                      refine lv_aload_n hx hb dX7_innerLine_110 rfl (lv_at hl 5 rfl) ?_
                      have hMs := ml_of hD [true, true, true, false, false, false] (wc := [(oc7 oM iM_thrown rM_tape iM_taped iM_size z_6173 z_6174 z_6175 z_6176 z_6177 x_6291 x_6292 iM_trouble rM_letters x_6293 iM_hasCourt rM_r rM_fresh rM_told rM_read rM_st rM_undone rM_kept iM_undos iM_images rM_fresher x_6167 iM_scale iM_night rM_heardRow rM_cutRow iM_breaths iM_cutMany iM_allBreaths rM_trial rM_words iM_fewestBreaths iM_orderMany iM_orderSum iM_leastOrder rM_often iM_setMany iM_someOf iM_allOf iM_allWeight iM_enoughWeight iM_worthSum iM_firstRest iM_leastDrawn), (arI rM_tape kM_tape 900 fM_tape), (arI rM_letters kM_letters 8 f_6181)]) rfl
                      have hFc := va_freeM hD hS hA _ hMs
                      refine va_callv (va_runV (As := []) (rest := []) ⟨hx, hb, hml, hown, hts⟩ (tX7_pass l dC dI _ oM iM_thrown rM_tape fM_tape kM_tape iM_taped iM_size z_6173 z_6174 z_6175 z_6176 z_6177 x_6291 x_6292 iM_trouble rM_letters f_6181 kM_letters x_6293 iM_hasCourt rM_r rM_fresh rM_told rM_read rM_st rM_undone rM_kept iM_undos iM_images rM_fresher x_6167 iM_scale iM_night rM_heardRow rM_cutRow iM_breaths iM_cutMany iM_allBreaths rM_trial rM_words iM_fewestBreaths iM_orderMany iM_orderSum iM_leastOrder rM_often iM_setMany iM_someOf iM_allOf iM_allWeight iM_enoughWeight iM_worthSum iM_firstRest iM_leastDrawn b_iM_taped b_iM_size b_z_6174 b_z_6177 b_x_6293 b_iM_hasCourt b_iM_undos b_iM_images b_iM_scale b_iM_breaths b_iM_cutMany hi6_n_6184) (cwV 0 hts (wd_V wd_454 wd_455 wd_456 wd_5 (wd_c wd_457)) rfl rfl rfl dv_yX7_pass_0 ⟨Nat.le_of_ble_eq_true rfl, Nat.le_of_ble_eq_true rfl⟩) ⟨Pw.fb, recvX7 hK hP (q0 := 0) rfl, fun U hU hW => Pw.to (hP.ms _ hMs) (hD.ms _ hMs) (hK.ms [true, true, false, false, false] rfl) hE hS hFc hU hW⟩ rfl rfl hl.1 rfl (lv_room (Nat.le_of_ble_eq_true rfl)) dX7_innerLine_111 ⟨Nat.le_of_ble_eq_true rfl, Nat.le_of_ble_eq_true rfl⟩) hS (fun q _ h => hFc q h) hFc (fun u t H locs ht hvm hw hB hz1 hk1 hS => ?_)
                      refine ex_6_6 hB (fun x_6294 x_6295 x_6296 x_6297 x_6298 f_6299 b_x_6295 b_x_6298 e_x_6294_0 e_x_6294_1 e_x_6294_2 e_x_6294_3 hB => ?_)
                      obtain ⟨hP, hD⟩ := Bw.goN (ws' := [(oc7 oM iM_thrown rM_tape iM_taped iM_size x_6294 x_6295 x_6296 x_6297 x_6298 x_6291 x_6292 iM_trouble rM_letters x_6293 iM_hasCourt rM_r rM_fresh rM_told rM_read rM_st rM_undone rM_kept iM_undos iM_images rM_fresher x_6167 iM_scale iM_night rM_heardRow rM_cutRow iM_breaths iM_cutMany iM_allBreaths rM_trial rM_words iM_fewestBreaths iM_orderMany iM_orderSum iM_leastOrder rM_often iM_setMany iM_someOf iM_allOf iM_allWeight iM_enoughWeight iM_worthSum iM_firstRest iM_leastDrawn), (arI rM_tape kM_tape 900 fM_tape), (arI rM_letters kM_letters 8 f_6299), (arI rM_fresh kM_fresh 287 f_6182), (arI rM_read kM_read 90 f_6183), (arI rM_fresher kM_fresher 8 f_6169)]) hB rfl ht hP hD _ hMs hk1 hFc rfl
                      clear hz1 hk1 hvm ht hB hMs
                      have hG := hG.trans (un6_eq e_x_6294_3)
                      clear hi6_n_6184
                      clear hi8_n_6184
                      refine lv_iload_n hx hb dX7_innerLine_114 rfl (lv_at hl 6 rfl) ?_
                      refine lv_iconst (v := 3) hx hb dX7_innerLine_115 (by decide) ?_
                      refine lv_icmp_ne (tgt := 129) hx hb dX7_innerLine_116 (by decide) (fun c_6300 => ?_) (fun c_6300 => ?_)
                      · skip
                        have hG := hG.trans (if_neg c_6300)
                        have gc_6300 := ti_ne c_6300 rfl kc_3
                        replace gc_6300 : p0.toInt + (-2) ≤ 0 := om_b7ea5ffe gc_6300 hp0.2
                        clear hic
                        refine lv_iconst (v := 0) hx hb dX7_innerLine_129 (by decide) ?_
                        refine lv_istore (lv' := [(6, .int 0), (5, .int x_6206), (4, .int z_6172), (3, .int z_6171), (2, .int x_6170), (0, .ref oM), (1, .int p0)]) hx hb dX7_innerLine_130 hl (by decide) rfl (fun ls hl => ?_)
                        refine lv_aload_n hx hb dX7_innerLine_132 rfl (lv_at hl 5 rfl) ?_
                        refine va_get (D := (dC, dI)) (ci := 7) (v := .int x_6293) (C := RX7) (T := TX7) (N := 48) hx hb hts inX7 hown hK hP 0 rfl rfl 13 (by decide) (hts _ wd_380) (fun _ h9 => h9) rfl dX7_innerLine_133 ?_
                        refine lv_if_eq (tgt := 140) hx hb dX7_innerLine_136 (by decide) (fun c_6301 => ?_) (fun c_6301 => ?_)
                        · skip
                          have hG := hG.trans (if_pos c_6301)
                          have gc_6301 := ti_eq c_6301 rfl kc_0
                          exact ((om_b1155cdc e_x_6291_0 gc_6301)).elim
                        · skip
                          have hG := hG.trans (if_neg c_6301)
                          have gc_6301 := ti_ne c_6301 rfl kc_0
                          replace gc_6301 : (-1) * x_6293.toInt + 1 ≤ 0 := om_e3003f79 gc_6301 b_x_6293.1
                          exact wq_v hx hb hr 0 trivial (fun t ht hW => ⟨x_6294, x_6295, x_6296, x_6297, x_6298, x_6291, x_6292, x_6293, x_6167, f_6299, f_6182, f_6183, f_6169, b_x_6295, b_x_6298, b_x_6293, (om_9348f5ae hi7_n_6184 e_x_6294_0), e_x_6294_1, (om_1fc3dec6 gc_6157 b_x_6293.1), (fun h9 => False.elim (om_92495247 e_x_6291_0 h9.1)), hi2_n_6184, hG, Bw.to hP hD hK ht hW⟩) hS dX7_innerLine_139 hlocks
                      · skip
                        have hG := hG.trans (if_pos c_6300)
                        have gc_6300 := ti_eq c_6300 rfl kc_3
                        have h_6302 : (fM_fresh 8).toInt ≤ 1 := hic ⟨(om_02e9bb08 gc_6157), (om_ce492ef9 hp0.2 gc_6300)⟩
                        clear hic
                        refine lv_aload_n hx hb dX7_innerLine_119 rfl (lv_at hl 5 rfl) ?_
                        refine lv_iconst (v := 1) hx hb dX7_innerLine_120 (by decide) ?_
                        refine lv_bipush (v := 9) hx hb dX7_innerLine_121 (by decide) ?_
                        have hMs := ml_of hD [true, true, true, false, false, false] (wc := [(oc7 oM iM_thrown rM_tape iM_taped iM_size x_6294 x_6295 x_6296 x_6297 x_6298 x_6291 x_6292 iM_trouble rM_letters x_6293 iM_hasCourt rM_r rM_fresh rM_told rM_read rM_st rM_undone rM_kept iM_undos iM_images rM_fresher x_6167 iM_scale iM_night rM_heardRow rM_cutRow iM_breaths iM_cutMany iM_allBreaths rM_trial rM_words iM_fewestBreaths iM_orderMany iM_orderSum iM_leastOrder rM_often iM_setMany iM_someOf iM_allOf iM_allWeight iM_enoughWeight iM_worthSum iM_firstRest iM_leastDrawn), (arI rM_tape kM_tape 900 fM_tape), (arI rM_letters kM_letters 8 f_6299)]) rfl
                        have hFc := va_freeM hD hS hA _ hMs
                        refine va_calli (va_runV (As := [.int 1, .int 9]) (rest := []) ⟨hx, hb, hml, hown, hts⟩ (tX7_number l dC dI _ oM iM_thrown rM_tape fM_tape kM_tape iM_taped iM_size x_6294 x_6295 x_6296 x_6297 x_6298 x_6291 x_6292 iM_trouble rM_letters f_6299 kM_letters x_6293 iM_hasCourt rM_r rM_fresh rM_told rM_read rM_st rM_undone rM_kept iM_undos iM_images rM_fresher x_6167 iM_scale iM_night rM_heardRow rM_cutRow iM_breaths iM_cutMany iM_allBreaths rM_trial rM_words iM_fewestBreaths iM_orderMany iM_orderSum iM_leastOrder rM_often iM_setMany iM_someOf iM_allOf iM_allWeight iM_enoughWeight iM_worthSum iM_firstRest iM_leastDrawn 1 9 b_iM_taped b_iM_size b_x_6295 b_x_6298 b_x_6293 b_iM_hasCourt b_iM_undos b_iM_images b_iM_scale b_iM_breaths b_iM_cutMany e_x_6294_1 (om_dc317686 kc_1 kc_9)) (cwV 2 hts (wd_V wd_446 wd_447 wd_448 wd_5 (wd_c wd_449)) rfl rfl rfl dv_yX7_number_2 ⟨Nat.le_of_ble_eq_true rfl, Nat.le_of_ble_eq_true rfl⟩) ⟨Pw.fb, recvX7 hK hP (q0 := 0) rfl, fun U hU hW => Pw.to (hP.ms _ hMs) (hD.ms _ hMs) (hK.ms [true, true, false, false, false] rfl) hE hS hFc hU hW⟩ rfl rfl hl.1 rfl (lv_room (Nat.le_of_ble_eq_true rfl)) dX7_innerLine_123 ⟨Nat.le_of_ble_eq_true rfl, Nat.le_of_ble_eq_true rfl⟩) hS (fun q _ h => hFc q h) hFc (fun r u t H locs ht hvm hw hB hz1 hk1 hS => ?_)
                        have hru9 := hw.2
                        have hw := hw.1
                        refine ex_9_8 hB (fun x_6303 x_6304 x_6305 x_6306 x_6307 x_6308 x_6309 x_6310 f_6311 b_x_6304 b_x_6307 b_x_6310 e_x_6303_0 e_x_6303_1 e_x_6303_2 e_x_6303_3 e_x_6303_4 hB => ?_)
                        obtain ⟨hP, hD⟩ := Bw.goN (ws' := [(oc7 oM iM_thrown rM_tape iM_taped iM_size x_6303 x_6304 x_6305 x_6306 x_6307 x_6308 x_6309 iM_trouble rM_letters x_6310 iM_hasCourt rM_r rM_fresh rM_told rM_read rM_st rM_undone rM_kept iM_undos iM_images rM_fresher x_6167 iM_scale iM_night rM_heardRow rM_cutRow iM_breaths iM_cutMany iM_allBreaths rM_trial rM_words iM_fewestBreaths iM_orderMany iM_orderSum iM_leastOrder rM_often iM_setMany iM_someOf iM_allOf iM_allWeight iM_enoughWeight iM_worthSum iM_firstRest iM_leastDrawn), (arI rM_tape kM_tape 900 fM_tape), (arI rM_letters kM_letters 8 f_6311), (arI rM_fresh kM_fresh 287 f_6182), (arI rM_read kM_read 90 f_6183), (arI rM_fresher kM_fresher 8 f_6169)]) hB rfl ht hP hD _ hMs hk1 hFc rfl
                        clear hz1 hk1 hvm ht hB hMs
                        rw [← hru9] at e_x_6303_4
                        obtain ⟨x_6312, rfl⟩ : ∃ z, z = r := ⟨_, rfl⟩
                        have hG := hG.trans (un10_eq e_x_6303_4)
                        have lx_6312 := hw.2
                        have kl_1 := kc_1
                        have kl_9 := kc_9
                        clear e_x_6294_1
                        clear e_x_6294_2
                        refine lv_goto (tgt := 130) hx hb dX7_innerLine_126 (by decide) ?_
                        refine lv_istore (lv' := [(6, .int x_6312), (5, .int x_6206), (4, .int z_6172), (3, .int z_6171), (2, .int x_6170), (0, .ref oM), (1, .int p0)]) hx hb dX7_innerLine_130 hl (by decide) rfl (fun ls hl => ?_)
                        refine lv_aload_n hx hb dX7_innerLine_132 rfl (lv_at hl 5 rfl) ?_
                        refine va_get (D := (dC, dI)) (ci := 7) (v := .int x_6310) (C := RX7) (T := TX7) (N := 48) hx hb hts inX7 hown hK hP 0 rfl rfl 13 (by decide) (hts _ wd_380) (fun _ h9 => h9) rfl dX7_innerLine_133 ?_
                        refine lv_if_eq (tgt := 140) hx hb dX7_innerLine_136 (by decide) (fun c_6313 => ?_) (fun c_6313 => ?_)
                        · skip
                          have hG := hG.trans (if_pos c_6313)
                          have gc_6313 := ti_eq c_6313 rfl kc_0
                          exact ((om_2f02dee4 e_x_6291_0 e_x_6303_2 gc_6313)).elim
                        · skip
                          have hG := hG.trans (if_neg c_6313)
                          have gc_6313 := ti_ne c_6313 rfl kc_0
                          replace gc_6313 : (-1) * x_6310.toInt + 1 ≤ 0 := om_e3003f79 gc_6313 b_x_6310.1
                          exact wq_v hx hb hr 0 trivial (fun t ht hW => ⟨x_6303, x_6304, x_6305, x_6306, x_6307, x_6308, x_6309, x_6310, x_6167, f_6311, f_6182, f_6183, f_6169, b_x_6304, b_x_6307, b_x_6310, (om_622f2a87 hi7_n_6184 e_x_6294_0 e_x_6303_0), e_x_6303_1, (om_1fc3dec6 gc_6157 b_x_6310.1), (fun h9 => False.elim (om_a5fe015d gc_6313 h9.1)), hi2_n_6184, hG, Bw.to hP hD hK ht hW⟩) hS dX7_innerLine_139 hlocks
                · skip
                  have hG := hG.trans (if_neg c_6212)
                  have gc_6212 := ti_nle c_6212 rfl rfl
                  refine lv_aload_n hx hb dX7_innerLine_51 rfl (lv_at hl 5 rfl) ?_
                  refine va_get (D := (dC, dI)) (ci := 7) (v := .int z_6208) (C := RX7) (T := TX7) (N := 48) hx hb hts inX7 hown hK hP 0 rfl rfl 13 (by decide) (hts _ wd_380) (fun _ h9 => h9) rfl dX7_innerLine_52 ?_
                  refine lv_if_ne (tgt := 83) hx hb dX7_innerLine_55 (by decide) (fun c_6314 => ?_) (fun c_6314 => ?_)
                  · skip
                    have hG := hG.trans (if_neg c_6314)
                    have gc_6314 := ti_ne c_6314 rfl kc_0
                    replace gc_6314 : (-1) * z_6208.toInt + 1 ≤ 0 := om_e3003f79 gc_6314 b_z_6208.1
                    obtain ⟨x_6315, ex_6315⟩ : ∃ z : Int32, z = z_6207 + Int32.ofInt 1 := ⟨_, rfl⟩
                    have hG := hG.trans (lt_eq ex_6315)
                    have vx_6315 : x_6315.toInt = z_6207.toInt + 1 := ti_add (y := 1) ex_6315 rfl kc_1 (om_4e4fce7e hi0_n_6211.1) (om_d6392c09 hi0_n_6184.2 hi0_n_6211.2)
                    refine lv_iinc (v := x_6315) (lv' := [(6, .int x_6315), (5, .int x_6206), (4, .int z_6172), (3, .int z_6171), (2, .int x_6170), (0, .ref oM), (1, .int p0)]) hx hb dX7_innerLine_83 hl (k := 0) rfl ex_6315.symm (by decide) rfl (fun ls hl => ?_)
                    refine lv_goto (tgt := 45) hx hb dX7_innerLine_86 (by decide) ?_
                    exact ih_n_6211 x_6315 z_6208 z_6209 z_6210 _ _ _ b_z_6208 ⟨(om_83b90de5 hi0_n_6211.1 vx_6315), (om_afcf07ef gc_6212 vx_6315)⟩ hi1_n_6211 (show NeI _ _ _ _ _ from fun h9 i9 hi9 => by by_cases e9 : i9 = z_6207.toNatClampNeg; (rw [e9]; omega); exact hi2_n_6211 (by omega) i9 (by have q1 := ti_cl (x := x_6315) vx_6315 (om_9548a8fd hi0_n_6211.1); have q2 := ti_cl (x := z_6207) rfl hi0_n_6211.1; omega)) (ms_lt hm_n_6211 (om_dd4ae0bc vx_6315) (om_d5382009 gc_6212)) hG hP hD hS (lv_sub hl [0, 1, 2, 3, 4, 5, 6] rfl)
                  · skip
                    have hG := hG.trans (if_pos c_6314)
                    have gc_6314 := ti_eq c_6314 rfl kc_0
                    have h_6316 : 1 ≤ (f_6182 1).toInt := e_x_6203_1 (om_6c480895 hi1_n_6211 gc_6314)
                    clear e_x_6203_1
                    have h_6317 : x_6206.toInt < (f_6182 1).toInt := lx_6206.2.1 h_6316
                    refine lv_aload_n hx hb dX7_innerLine_58 rfl (lv_at hl 5 rfl) ?_
                    refine va_get (D := (dC, dI)) (ci := 7) (v := .ref rM_read) (C := RX7) (T := TX7) (N := 48) hx hb hts inX7 hown hK hP 0 rfl rfl 18 (by decide) (hts _ wd_158) (fun _ h9 => h9) rfl dX7_innerLine_59 ?_
                    refine lv_iconst (v := 4) hx hb dX7_innerLine_62 (by decide) ?_
                    refine lv_iload_n hx hb dX7_innerLine_63 rfl (lv_at hl 4 rfl) ?_
                    refine lv_imul hx hb dX7_innerLine_64 ?_
                    refine lv_topi (fun x_6318 ex_6318 => ?_)
                    have hG := hG.trans (lt_eq ex_6318)
                    have vx_6318 : x_6318.toInt = 4 * x_6170.toInt := ti_mul ex_6318 kc_4 rfl (om_9e6bb6a4 pl_fM_fresh.2.2.2.2.1.1 pl_fM_fresh.2.2.2.2.1.2 cx_6170) (om_7d3cae7d pl_fM_fresh.2.1 pl_fM_fresh.2.2.1.2 pl_fM_fresh.2.2.2.2.2.1.2 cx_6170)
                    refine lv_iload hx hb dX7_innerLine_65 (lv_at hl 0 rfl) ?_
                    refine lv_iadd hx hb dX7_innerLine_67 ?_
                    refine lv_topi (fun x_6319 ex_6319 => ?_)
                    have hG := hG.trans (lt_eq ex_6319)
                    have vx_6319 : x_6319.toInt = 4 * x_6170.toInt + z_6207.toInt := om_5d0caf0f (ti_add ex_6319 vx_6318 rfl (om_80a5d224 pl_fM_fresh.2.2.2.2.1.1 pl_fM_fresh.2.2.2.2.1.2 cx_6170 hi0_n_6211.1) (om_92405955 pl_fM_fresh.2.1 pl_fM_fresh.2.2.1.2 pl_fM_fresh.2.2.2.2.2.1.2 cx_6170 hi0_n_6184.2 hi0_n_6211.2))
                    refine va_iald hx hb hK hP 4 3 rfl rfl (ti_in vx_6319 (om_dcc527d7 pl_fM_fresh.2.2.2.2.1.1 pl_fM_fresh.2.2.2.2.1.2 cx_6170 hi0_n_6211.1) (om_87f3af2a pl_fM_fresh.2.1 pl_fM_fresh.2.2.1.2 pl_fM_fresh.2.2.2.2.2.1.2 cx_6170 hi0_n_6184.2 hi0_n_6211.2)) dX7_innerLine_68 ?_
                    refine lv_topi (fun x_6320 ex_6320 => ?_)
                    have hG := hG.trans (lt_eq ex_6320)
                    have kx_6320 : (f_6183 x_6319.toNatClampNeg).toInt = x_6320.toInt := by rw [ex_6320]
                    have cx_6320 : (f_6183 (4 * x_6170.toNatClampNeg + z_6207.toNatClampNeg)).toInt = x_6320.toInt := by rw [show 4 * x_6170.toNatClampNeg + z_6207.toNatClampNeg = x_6319.toNatClampNeg from (om_4de36627 (ti_cl (x := x_6170) rfl (om_1ab2c227 pl_fM_fresh.2.2.2.2.1.1 pl_fM_fresh.2.2.2.2.1.2 cx_6170)) (ti_cl (x := z_6207) rfl hi0_n_6211.1) (ti_cl (x := x_6319) vx_6319 (om_dcc527d7 pl_fM_fresh.2.2.2.2.1.1 pl_fM_fresh.2.2.2.2.1.2 cx_6170 hi0_n_6211.1)))]; exact kx_6320
                    refine lv_iload hx hb dX7_innerLine_69 (lv_at hl 1 rfl) ?_
                    refine lv_icmp_ne (tgt := 83) hx hb dX7_innerLine_71 (by decide) (fun c_6321 => ?_) (fun c_6321 => ?_)
                    · skip
                      have hG := hG.trans (if_neg c_6321)
                      have gc_6321 := ti_ne c_6321 rfl rfl
                      obtain ⟨x_6322, ex_6322⟩ : ∃ z : Int32, z = z_6207 + Int32.ofInt 1 := ⟨_, rfl⟩
                      have hG := hG.trans (lt_eq ex_6322)
                      have vx_6322 : x_6322.toInt = z_6207.toInt + 1 := ti_add (y := 1) ex_6322 rfl kc_1 (om_4e4fce7e hi0_n_6211.1) (om_d6392c09 hi0_n_6184.2 hi0_n_6211.2)
                      refine lv_iinc (v := x_6322) (lv' := [(6, .int x_6322), (5, .int x_6206), (4, .int z_6172), (3, .int z_6171), (2, .int x_6170), (0, .ref oM), (1, .int p0)]) hx hb dX7_innerLine_83 hl (k := 0) rfl ex_6322.symm (by decide) rfl (fun ls hl => ?_)
                      refine lv_goto (tgt := 45) hx hb dX7_innerLine_86 (by decide) ?_
                      exact ih_n_6211 x_6322 z_6208 z_6209 z_6210 _ _ _ b_z_6208 ⟨(om_83b90de5 hi0_n_6211.1 vx_6322), (om_afcf07ef gc_6212 vx_6322)⟩ hi1_n_6211 (show NeI _ _ _ _ _ from fun h9 i9 hi9 => by by_cases e9 : i9 = z_6207.toNatClampNeg; (rw [e9]; omega); exact hi2_n_6211 (by omega) i9 (by have q1 := ti_cl (x := x_6322) vx_6322 (om_9548a8fd hi0_n_6211.1); have q2 := ti_cl (x := z_6207) rfl hi0_n_6211.1; omega)) (ms_lt hm_n_6211 (om_dd4ae0bc vx_6322) (om_d5382009 gc_6212)) hG hP hD hS (lv_sub hl [0, 1, 2, 3, 4, 5, 6] rfl)
                    · skip
                      have hG := hG.trans (if_pos c_6321)
                      have gc_6321 := ti_eq c_6321 rfl rfl
                      refine lv_aload_n hx hb dX7_innerLine_74 rfl (lv_at hl 5 rfl) ?_
                      refine lv_iconst (v := 3) hx hb dX7_innerLine_75 (by decide) ?_
                      refine lv_aload_n hx hb dX7_innerLine_76 rfl (lv_at hl 5 rfl) ?_
                      refine va_get (D := (dC, dI)) (ci := 7) (v := .int z_6173) (C := RX7) (T := TX7) (N := 48) hx hb hts inX7 hown hK hP 0 rfl rfl 4 (by decide) (hts _ wd_384) (fun _ h9 => h9) rfl dX7_innerLine_77 ?_
                      have hMs := ml_of hD [true, false, false, false, false, false] (wc := [(oc7 oM iM_thrown rM_tape iM_taped iM_size z_6173 z_6174 z_6175 z_6176 z_6177 z_6209 z_6210 iM_trouble rM_letters z_6208 iM_hasCourt rM_r rM_fresh rM_told rM_read rM_st rM_undone rM_kept iM_undos iM_images rM_fresher x_6167 iM_scale iM_night rM_heardRow rM_cutRow iM_breaths iM_cutMany iM_allBreaths rM_trial rM_words iM_fewestBreaths iM_orderMany iM_orderSum iM_leastOrder rM_often iM_setMany iM_someOf iM_allOf iM_allWeight iM_enoughWeight iM_worthSum iM_firstRest iM_leastDrawn)]) rfl
                      have hFc := va_freeM hD hS hA _ hMs
                      refine va_callv (va_runV (As := [.int 3, .int z_6173]) (rest := []) ⟨hx, hb, hml, hown, hts⟩ (tX7_wrong l dC dI _ oM iM_thrown rM_tape iM_taped iM_size z_6173 z_6174 z_6175 z_6176 z_6177 z_6209 z_6210 iM_trouble rM_letters z_6208 iM_hasCourt rM_r rM_fresh rM_told rM_read rM_st rM_undone rM_kept iM_undos iM_images rM_fresher x_6167 iM_scale iM_night rM_heardRow rM_cutRow iM_breaths iM_cutMany iM_allBreaths rM_trial rM_words iM_fewestBreaths iM_orderMany iM_orderSum iM_leastOrder rM_often iM_setMany iM_someOf iM_allOf iM_allWeight iM_enoughWeight iM_worthSum iM_firstRest iM_leastDrawn 3 z_6173 b_iM_taped b_iM_size b_z_6174 b_z_6177 b_z_6208 b_iM_hasCourt b_iM_undos b_iM_images b_iM_scale b_iM_breaths b_iM_cutMany hi6_n_6184) (cwV 2 hts (wd_V wd_430 wd_431 wd_432 wd_5 (wd_c wd_433)) rfl rfl rfl dv_yX7_wrong_2 ⟨Nat.le_of_ble_eq_true rfl, Nat.le_of_ble_eq_true rfl⟩) ⟨Pw.fb, recvX7 hK hP (q0 := 0) rfl, fun U hU hW => Pw.to (hP.ms _ hMs) (hD.ms _ hMs) (hK.ms [false, false, false, false, false] rfl) hE hS hFc hU hW⟩ rfl rfl hl.1 rfl (lv_room (Nat.le_of_ble_eq_true rfl)) dX7_innerLine_80 ⟨Nat.le_of_ble_eq_true rfl, Nat.le_of_ble_eq_true rfl⟩) hS (fun q _ h => hFc q h) hFc (fun u t H locs ht hvm hw hB hz1 hk1 hS => ?_)
                      refine ex_3_3 hB (fun x_6323 x_6324 x_6325 b_x_6325 e_x_6323_0 e_x_6323_1 hB => ?_)
                      obtain ⟨hP, hD⟩ := Bw.goN (ws' := [(oc7 oM iM_thrown rM_tape iM_taped iM_size z_6173 z_6174 z_6175 z_6176 z_6177 x_6323 x_6324 iM_trouble rM_letters x_6325 iM_hasCourt rM_r rM_fresh rM_told rM_read rM_st rM_undone rM_kept iM_undos iM_images rM_fresher x_6167 iM_scale iM_night rM_heardRow rM_cutRow iM_breaths iM_cutMany iM_allBreaths rM_trial rM_words iM_fewestBreaths iM_orderMany iM_orderSum iM_leastOrder rM_often iM_setMany iM_someOf iM_allOf iM_allWeight iM_enoughWeight iM_worthSum iM_firstRest iM_leastDrawn), (arI rM_tape kM_tape 900 fM_tape), (arI rM_letters kM_letters 8 f_6181), (arI rM_fresh kM_fresh 287 f_6182), (arI rM_read kM_read 90 f_6183), (arI rM_fresher kM_fresher 8 f_6169)]) hB rfl ht hP hD _ hMs hk1 hFc rfl
                      clear hz1 hk1 hvm ht hB hMs
                      have hG := hG.trans (un3_eq e_x_6323_1)
                      obtain ⟨x_6326, ex_6326⟩ : ∃ z : Int32, z = z_6207 + Int32.ofInt 1 := ⟨_, rfl⟩
                      have hG := hG.trans (lt_eq ex_6326)
                      have vx_6326 : x_6326.toInt = z_6207.toInt + 1 := ti_add (y := 1) ex_6326 rfl kc_1 (om_4e4fce7e hi0_n_6211.1) (om_d6392c09 hi0_n_6184.2 hi0_n_6211.2)
                      refine lv_iinc (v := x_6326) (lv' := [(6, .int x_6326), (5, .int x_6206), (4, .int z_6172), (3, .int z_6171), (2, .int x_6170), (0, .ref oM), (1, .int p0)]) hx hb dX7_innerLine_83 hl (k := 0) rfl ex_6326.symm (by decide) rfl (fun ls hl => ?_)
                      refine lv_goto (tgt := 45) hx hb dX7_innerLine_86 (by decide) ?_
                      exact ih_n_6211 x_6326 x_6325 x_6323 x_6324 _ _ _ b_x_6325 ⟨(om_83b90de5 hi0_n_6211.1 vx_6326), (om_afcf07ef gc_6212 vx_6326)⟩ (om_00f1c5dd b_x_6205.2 e_x_6323_0) (show NeI _ _ _ _ _ from fun h9 i9 hi9 => by by_cases e9 : i9 = z_6207.toNatClampNeg; (rw [e9]; omega); exact hi2_n_6211 (by omega) i9 (by have q1 := ti_cl (x := x_6326) vx_6326 (om_9548a8fd hi0_n_6211.1); have q2 := ti_cl (x := z_6207) rfl hi0_n_6211.1; omega)) (ms_lt hm_n_6211 (om_dd4ae0bc vx_6326) (om_d5382009 gc_6212)) hG hP hD hS (lv_sub hl [0, 1, 2, 3, 4, 5, 6] rfl)
            exact key_n_6211 (((z_6171.toInt - (0 : Int32).toInt).toNat) + 1) 0 x_6205 x_6203 x_6204 _ _ _ b_x_6205 ⟨(om_b1de7dbe kc_0), (om_2dfe280d hi0_n_6184.1 kc_0)⟩ om_1cb5f934 (show NeI _ _ _ _ _ from fun _ i9 hi9 => absurd hi9 (Nat.not_lt_zero i9)) (Nat.lt_add_one _) hG hP hD hS hl
    exact key_n_6184 (((4 - (0 : Int32).toInt).toNat) + 1) 0 1 x_6159 x_6160 x_6161 x_6162 x_6163 x_6164 x_6165 x_6166 f_6168 fM_fresh fM_read _ _ _ b_x_6160 b_x_6163 b_x_6166 ⟨(om_b1de7dbe kc_0), (om_bebe011a kc_0)⟩ ⟨(om_1b364b1c kc_1), (om_02032f93 kc_1)⟩ (by assumption) in_zero ⟨rfl, rfl, rfl⟩ (fun h9 => by have q0 := kc_0; have q1 := kc_1; omega) e_x_6159_1 e_x_6159_0 (fun h9 => by have q0 := kc_0; have q1 := kc_1; have q9 := e_x_6159_3 (by omega); omega) (Nat.lt_add_one _) hG hP hD hS hl
  · skip
    have hG := hG.trans (if_neg c_6157)
    have gc_6157 := ti_ne c_6157 rfl kc_0
    replace gc_6157 : (-1) * iM_failed.toInt + 1 ≤ 0 := om_e3003f79 gc_6157 b_iM_failed.1
    clear hil
    clear hic
    exact wq_v hx hb hr 0 trivial (fun t ht hW => ⟨iM_at, iM_end, iM_token, iM_whole, iM_nameSize, iM_fault, iM_place, iM_failed, iM_fresherSize, fM_letters, fM_fresh, fM_read, fM_fresher, ⟨b_iM_end.1, b_iM_end.2⟩, ⟨b_iM_nameSize.1, b_iM_nameSize.2⟩, ⟨b_iM_failed.1, b_iM_failed.2⟩, om_1cb5f934, r_T, om_1cb5f934, (fun h9 => False.elim (om_a5fe015d gc_6157 h9.1)), r_P, hG, Bw.to hP hD hK ht hW⟩) hS dX7_innerLine_7 hlocks
