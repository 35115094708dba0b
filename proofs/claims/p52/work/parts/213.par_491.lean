set_option maxHeartbeats 4000000 in
set_option maxRecDepth 100000 in
theorem tX7_innerLine (l : Launch) (dC : Nat → ClassId) (dI : Nat → Nat → Nat) (sz : Nat) (oM : Nat) (iM_thrown : Int32) (rM_tape : Nat) (fM_tape : Nat → Int32) (kM_tape : ClassId) (iM_taped : Int32) (iM_size : Int32) (iM_at : Int32) (iM_end : Int32) (iM_token : Int32) (iM_whole : Int32) (iM_nameSize : Int32) (iM_fault : Int32) (iM_place : Int32) (iM_trouble : Int32) (rM_letters : Nat) (fM_letters : Nat → Int32) (kM_letters : ClassId) (iM_failed : Int32) (iM_hasCourt : Int32) (rM_r : Nat) (rM_fresh : Nat) (fM_fresh : Nat → Int32) (kM_fresh : ClassId) (rM_told : Nat) (rM_read : Nat) (fM_read : Nat → Int32) (kM_read : ClassId) (rM_st : Nat) (rM_undone : Nat) (rM_kept : Nat) (iM_undos : Int32) (iM_images : Int32) (rM_fresher : Nat) (fM_fresher : Nat → Int32) (kM_fresher : ClassId) (iM_fresherSize : Int32) (iM_scale : Int32) (iM_night : Int32) (rM_heardRow : Nat) (rM_cutRow : Nat) (iM_breaths : Int32) (iM_cutMany : Int32) (iM_allBreaths : Int32) (rM_trial : Nat) (rM_words : Nat) (iM_fewestBreaths : Int32) (iM_orderMany : Int32) (iM_orderSum : Int32) (iM_leastOrder : Int32) (rM_often : Nat) (iM_setMany : Int32) (iM_someOf : Int32) (iM_allOf : Int32) (iM_allWeight : Int64) (iM_enoughWeight : Int64) (iM_worthSum : Int64) (iM_firstRest : Int32) (iM_leastDrawn : Int32) (p0 : Int32) (b_iM_taped : 0 ≤ iM_taped.toInt ∧ iM_taped.toInt ≤ 900) (b_iM_size : 0 ≤ iM_size.toInt ∧ iM_size.toInt ≤ 900) (b_iM_end : 0 ≤ iM_end.toInt ∧ iM_end.toInt ≤ 900) (b_iM_nameSize : 0 ≤ iM_nameSize.toInt ∧ iM_nameSize.toInt ≤ 900) (b_iM_failed : 0 ≤ iM_failed.toInt ∧ iM_failed.toInt ≤ 1) (b_iM_hasCourt : 0 ≤ iM_hasCourt.toInt ∧ iM_hasCourt.toInt ≤ 1) (b_iM_undos : 0 ≤ iM_undos.toInt ∧ iM_undos.toInt ≤ 16) (b_iM_images : 0 ≤ iM_images.toInt ∧ iM_images.toInt ≤ 3) (b_iM_scale : 1 ≤ iM_scale.toInt ∧ iM_scale.toInt ≤ 1296) (b_iM_breaths : 0 ≤ iM_breaths.toInt ∧ iM_breaths.toInt ≤ 399) (b_iM_cutMany : 0 ≤ iM_cutMany.toInt ∧ iM_cutMany.toInt ≤ 399) (r_T : ImpP (iM_token.toInt = 2) (iM_nameSize.toInt ≤ 8)) (r_P : POk fM_fresh fM_read) (hp0 : 1 ≤ p0.toInt ∧ p0.toInt ≤ 3) (hil : ImpP (iM_failed.toInt ≤ 0) ((fM_fresh 7).toInt ≤ 7)) (hic : ImpP (iM_failed.toInt ≤ 0 ∧ p0.toInt = 3) ((fM_fresh 8).toInt ≤ 1)) : Met l yX7_innerLine (Cond.code yX7_innerLine cX7_innerLine 7 none :: wG) ({ frames := 7, cells := 0, slots := 0, locals := 175 }) (va_Pc [.ref oM, .int p0] (Pw dC dI sz [(oc7 oM iM_thrown rM_tape iM_taped iM_size iM_at iM_end iM_token iM_whole iM_nameSize iM_fault iM_place iM_trouble rM_letters iM_failed iM_hasCourt rM_r rM_fresh rM_told rM_read rM_st rM_undone rM_kept iM_undos iM_images rM_fresher iM_fresherSize iM_scale iM_night rM_heardRow rM_cutRow iM_breaths iM_cutMany iM_allBreaths rM_trial rM_words iM_fewestBreaths iM_orderMany iM_orderSum iM_leastOrder rM_often iM_setMany iM_someOf iM_allOf iM_allWeight iM_enoughWeight iM_worthSum iM_firstRest iM_leastDrawn), (arI rM_tape kM_tape 900 fM_tape), (arI rM_letters kM_letters 8 fM_letters), (arI rM_fresh kM_fresh 287 fM_fresh), (arI rM_read kM_read 90 fM_read), (arI rM_fresher kM_fresher 8 fM_fresher)] [(kM_tape, .int), (kM_letters, .int), (kM_fresh, .int), (kM_read, .int), (kM_fresher, .int)])) (va_Qv (fun (_ : Nat) => True) (fun (_ : Nat) (t : State) => ∃ (niM_at : Int32) (niM_end : Int32) (niM_token : Int32) (niM_whole : Int32) (niM_nameSize : Int32) (niM_fault : Int32) (niM_place : Int32) (niM_failed : Int32) (niM_fresherSize : Int32) (nfM_letters : Nat → Int32) (nfM_fresh : Nat → Int32) (nfM_read : Nat → Int32) (nfM_fresher : Nat → Int32), (0 ≤ niM_end.toInt ∧ niM_end.toInt ≤ 900) ∧ (0 ≤ niM_nameSize.toInt ∧ niM_nameSize.toInt ≤ 900) ∧ (0 ≤ niM_failed.toInt ∧ niM_failed.toInt ≤ 1) ∧ (iM_end.toInt ≤ niM_end.toInt) ∧ (ImpP (niM_token.toInt = 2) (niM_nameSize.toInt ≤ 8)) ∧ (iM_failed.toInt ≤ niM_failed.toInt) ∧ (ImpP (niM_failed.toInt ≤ 0 ∧ niM_token.toInt = 59 ) (iM_end.toInt + 1 ≤ niM_end.toInt)) ∧ (POk nfM_fresh nfM_read) ∧ (PX7_innerLine fM_tape iM_size iM_at iM_end iM_token iM_whole iM_nameSize iM_fault iM_place fM_letters iM_failed fM_fresh fM_read fM_fresher iM_fresherSize p0 = (niM_at, niM_end, niM_token, niM_whole, niM_nameSize, niM_fault, niM_place, niM_failed, niM_fresherSize, nfM_letters, nfM_fresh, nfM_read, nfM_fresher)) ∧ Bw dC dI (va_A [(oc7 oM iM_thrown rM_tape iM_taped iM_size iM_at iM_end iM_token iM_whole iM_nameSize iM_fault iM_place iM_trouble rM_letters iM_failed iM_hasCourt rM_r rM_fresh rM_told rM_read rM_st rM_undone rM_kept iM_undos iM_images rM_fresher iM_fresherSize iM_scale iM_night rM_heardRow rM_cutRow iM_breaths iM_cutMany iM_allBreaths rM_trial rM_words iM_fewestBreaths iM_orderMany iM_orderSum iM_leastOrder rM_often iM_setMany iM_someOf iM_allOf iM_allWeight iM_enoughWeight iM_worthSum iM_firstRest iM_leastDrawn), (arI rM_tape kM_tape 900 fM_tape), (arI rM_letters kM_letters 8 fM_letters), (arI rM_fresh kM_fresh 287 fM_fresh), (arI rM_read kM_read 90 fM_read), (arI rM_fresher kM_fresher 8 fM_fresher)] sz) [(oc7 oM iM_thrown rM_tape iM_taped iM_size niM_at niM_end niM_token niM_whole niM_nameSize niM_fault niM_place iM_trouble rM_letters niM_failed iM_hasCourt rM_r rM_fresh rM_told rM_read rM_st rM_undone rM_kept iM_undos iM_images rM_fresher niM_fresherSize iM_scale iM_night rM_heardRow rM_cutRow iM_breaths iM_cutMany iM_allBreaths rM_trial rM_words iM_fewestBreaths iM_orderMany iM_orderSum iM_leastOrder rM_often iM_setMany iM_someOf iM_allOf iM_allWeight iM_enoughWeight iM_worthSum iM_firstRest iM_leastDrawn), (arI rM_tape kM_tape 900 fM_tape), (arI rM_letters kM_letters 8 nfM_letters), (arI rM_fresh kM_fresh 287 nfM_fresh), (arI rM_read kM_read 90 nfM_read), (arI rM_fresher kM_fresher 8 nfM_fresher)] [(kM_tape, .int), (kM_letters, .int), (kM_fresh, .int), (kM_read, .int), (kM_fresher, .int)] t) (va_A [(oc7 oM iM_thrown rM_tape iM_taped iM_size iM_at iM_end iM_token iM_whole iM_nameSize iM_fault iM_place iM_trouble rM_letters iM_failed iM_hasCourt rM_r rM_fresh rM_told rM_read rM_st rM_undone rM_kept iM_undos iM_images rM_fresher iM_fresherSize iM_scale iM_night rM_heardRow rM_cutRow iM_breaths iM_cutMany iM_allBreaths rM_trial rM_words iM_fewestBreaths iM_orderMany iM_orderSum iM_leastOrder rM_often iM_setMany iM_someOf iM_allOf iM_allWeight iM_enoughWeight iM_worthSum iM_firstRest iM_leastDrawn), (arI rM_tape kM_tape 900 fM_tape), (arI rM_letters kM_letters 8 fM_letters), (arI rM_fresh kM_fresh 287 fM_fresh), (arI rM_read kM_read 90 fM_read), (arI rM_fresher kM_fresher 8 fM_fresher)] sz)) 0 0 (va_A [(oc7 oM iM_thrown rM_tape iM_taped iM_size iM_at iM_end iM_token iM_whole iM_nameSize iM_fault iM_place iM_trouble rM_letters iM_failed iM_hasCourt rM_r rM_fresh rM_told rM_read rM_st rM_undone rM_kept iM_undos iM_images rM_fresher iM_fresherSize iM_scale iM_night rM_heardRow rM_cutRow iM_breaths iM_cutMany iM_allBreaths rM_trial rM_words iM_fewestBreaths iM_orderMany iM_orderSum iM_leastOrder rM_often iM_setMany iM_someOf iM_allOf iM_allWeight iM_enoughWeight iM_worthSum iM_firstRest iM_leastDrawn), (arI rM_tape kM_tape 900 fM_tape), (arI rM_letters kM_letters 8 fM_letters), (arI rM_fresh kM_fresh 287 fM_fresh), (arI rM_read kM_read 90 fM_read), (arI rM_fresher kM_fresher 8 fM_fresher)] sz) := by
  refine Met.ofW (cc := cX7_innerLine) (maxL := 7) (ret := none) pnX7 rfl ?_
  intro p e s m args below meth c s₁ B hml hv
  obtain ⟨rfl, hsz, hP, hK, hD0, hE⟩ := hv
  have hx := B.exec
  have hb := B.bytes
  have hr := B.returns
  have hts : ∀ w ∈ wG, w.before ([.ref oM, .int p0] : List Value).toArray s = true := fun w h => atoms_spec (ws := Cond.code yX7_innerLine cX7_innerLine 7 none :: wG) B.pre w (List.mem_cons_of_mem _ h)
  have hown : s.vm.findClass RX7 = some m.cls := own_of B.named rfl
  have hlocks := B.notSynchronized
  subst hsz
  have hD := hD0.self (sz := s.heap.size)
  generalize hAe : va_A [(oc7 oM iM_thrown rM_tape iM_taped iM_size iM_at iM_end iM_token iM_whole iM_nameSize iM_fault iM_place iM_trouble rM_letters iM_failed iM_hasCourt rM_r rM_fresh rM_told rM_read rM_st rM_undone rM_kept iM_undos iM_images rM_fresher iM_fresherSize iM_scale iM_night rM_heardRow rM_cutRow iM_breaths iM_cutMany iM_allBreaths rM_trial rM_words iM_fewestBreaths iM_orderMany iM_orderSum iM_leastOrder rM_often iM_setMany iM_someOf iM_allOf iM_allWeight iM_enoughWeight iM_worthSum iM_firstRest iM_leastDrawn), (arI rM_tape kM_tape 900 fM_tape), (arI rM_letters kM_letters 8 fM_letters), (arI rM_fresh kM_fresh 287 fM_fresh), (arI rM_read kM_read 90 fM_read), (arI rM_fresher kM_fresher 8 fM_fresher)] s.heap.size = A at hD hE ⊢
  have hA : ∀ q : Nat, s.heap.size ≤ q → A q := fun q h => by rw [← hAe]; exact Or.inr h
  have hS : va_S A s.heap s.heap [] := va_S.rf
  have hl := lv_entry ([.ref oM, .int p0]) (n := 7) (Nat.le_of_ble_eq_true rfl)
  rw [lg_entry_eq]
  generalize (lg_sl ([.ref oM, .int p0]) ++ List.replicate (7 - (lg_sl ([.ref oM, .int p0])).length) Slot.unset).toArray = ls at hl ⊢
  have hl : lv_has ls 7 [(0, .ref oM), (1, .int p0)] := hl
  have hG := PX7_innerLine_eq fM_tape iM_size iM_at iM_end iM_token iM_whole iM_nameSize iM_fault iM_place fM_letters iM_failed fM_fresh fM_read fM_fresher iM_fresherSize p0
  have pl_fM_fresh := r_P.lins
  refine lv_aload_n hx hb dX7_innerLine_0 rfl (lv_at hl 0 rfl) ?_
  refine va_get (D := (dC, dI)) (ci := 7) (v := .int iM_failed) (C := RX7) (T := TX7) (N := 48) hx hb hts inX7 hown hK hP 0 rfl rfl 13 (by decide) (hts _ wd_380) (fun _ h9 => h9) rfl dX7_innerLine_1 ?_
  refine lv_if_eq (tgt := 8) hx hb dX7_innerLine_4 (by decide) (fun c_6155 => ?_) (fun c_6155 => ?_)
  · skip
    have hG := hG.trans (if_pos c_6155)
    have gc_6155 := ti_eq c_6155 rfl kc_0
    have h_6156 : (fM_fresh 7).toInt ≤ 7 := hil (om_02e9bb08 gc_6155)
    clear hil
    refine lv_aload_n hx hb dX7_innerLine_8 rfl (lv_at hl 0 rfl) ?_
    have hFc := va_freeI hD hS hA
    refine va_callv (va_runV (As := []) (rest := []) ⟨hx, hb, hml, hown, hts⟩ (tX7_newName l dC dI _ oM iM_thrown rM_tape fM_tape kM_tape iM_taped iM_size iM_at iM_end iM_token iM_whole iM_nameSize iM_fault iM_place iM_trouble rM_letters fM_letters kM_letters iM_failed iM_hasCourt rM_r rM_fresh fM_fresh kM_fresh rM_told rM_read fM_read kM_read rM_st rM_undone rM_kept iM_undos iM_images rM_fresher fM_fresher kM_fresher iM_fresherSize iM_scale iM_night rM_heardRow rM_cutRow iM_breaths iM_cutMany iM_allBreaths rM_trial rM_words iM_fewestBreaths iM_orderMany iM_orderSum iM_leastOrder rM_often iM_setMany iM_someOf iM_allOf iM_allWeight iM_enoughWeight iM_worthSum iM_firstRest iM_leastDrawn b_iM_taped b_iM_size b_iM_end b_iM_nameSize b_iM_failed b_iM_hasCourt b_iM_undos b_iM_images b_iM_scale b_iM_breaths b_iM_cutMany r_T r_P) (cwV 0 hts (wd_V wd_462 wd_463 wd_464 wd_5 (wd_c wd_465)) rfl rfl rfl dv_yX7_newName_0 ⟨Nat.le_of_ble_eq_true rfl, Nat.le_of_ble_eq_true rfl⟩) ⟨Pw.fb, recvX7 hK hP (q0 := 0) rfl, fun U hU hW => Pw.to hP hD hK hE hS hFc hU hW⟩ rfl rfl hl.1 rfl (lv_room (Nat.le_of_ble_eq_true rfl)) dX7_innerLine_9 ⟨Nat.le_of_ble_eq_true rfl, Nat.le_of_ble_eq_true rfl⟩) hS (fun q _ h => hFc q h) hFc (fun u t H locs ht hvm hw hB hz1 hk1 hS => ?_)
    refine ex_11_8 hB (fun x_6157 x_6158 x_6159 x_6160 x_6161 x_6162 x_6163 x_6164 x_6165 f_6166 f_6167 b_x_6158 b_x_6161 b_x_6164 e_x_6157_0 e_x_6157_1 e_x_6157_2 e_x_6157_3 e_x_6157_4 hB => ?_)
    obtain ⟨hP, hD⟩ := Bw.goA (ws' := [(oc7 oM iM_thrown rM_tape iM_taped iM_size x_6157 x_6158 x_6159 x_6160 x_6161 x_6162 x_6163 iM_trouble rM_letters x_6164 iM_hasCourt rM_r rM_fresh rM_told rM_read rM_st rM_undone rM_kept iM_undos iM_images rM_fresher x_6165 iM_scale iM_night rM_heardRow rM_cutRow iM_breaths iM_cutMany iM_allBreaths rM_trial rM_words iM_fewestBreaths iM_orderMany iM_orderSum iM_leastOrder rM_often iM_setMany iM_someOf iM_allOf iM_allWeight iM_enoughWeight iM_worthSum iM_firstRest iM_leastDrawn), (arI rM_tape kM_tape 900 fM_tape), (arI rM_letters kM_letters 8 f_6166), (arI rM_fresh kM_fresh 287 fM_fresh), (arI rM_read kM_read 90 fM_read), (arI rM_fresher kM_fresher 8 f_6167)]) hB rfl ht hFc rfl
    clear hz1 hk1 hvm ht hB
    have hG := hG.trans (un11_eq e_x_6157_4)
    clear r_T
    refine lv_aload_n hx hb dX7_innerLine_12 rfl (lv_at hl 0 rfl) ?_
    refine va_get (D := (dC, dI)) (ci := 7) (v := .ref rM_fresh) (C := RX7) (T := TX7) (N := 48) hx hb hts inX7 hown hK hP 0 rfl rfl 16 (by decide) (hts _ wd_156) (fun _ h9 => h9) rfl dX7_innerLine_13 ?_
    refine lv_iconst (v := 1) hx hb dX7_innerLine_16 (by decide) ?_
    refine va_iald hx hb hK hP 3 2 rfl rfl (by unfold vp_in; decide) dX7_innerLine_17 ?_
    refine lv_topi (fun x_6168 ex_6168 => ?_)
    have hG := hG.trans (lt_eq ex_6168)
    have cx_6168 : (fM_fresh 1).toInt = x_6168.toInt := congrArg Int32.toInt (show fM_fresh 1 = x_6168 from ex_6168.symm)
    refine lv_istore_n (lv' := [(2, .int x_6168), (0, .ref oM), (1, .int p0)]) hx hb dX7_innerLine_18 rfl hl (by decide) rfl (fun ls hl => ?_)
    refine lv_iconst (v := 0) hx hb dX7_innerLine_19 (by decide) ?_
    refine lv_istore_n (lv' := [(3, .int 0), (2, .int x_6168), (0, .ref oM), (1, .int p0)]) hx hb dX7_innerLine_20 rfl hl (by decide) rfl (fun ls hl => ?_)
    refine lv_iconst (v := 1) hx hb dX7_innerLine_21 (by decide) ?_
    refine lv_istore (lv' := [(4, .int 1), (3, .int 0), (2, .int x_6168), (0, .ref oM), (1, .int p0)]) hx hb dX7_innerLine_22 hl (by decide) rfl (fun ls hl => ?_)
    have hl := lv_sub hl (l' := [(4, .int 1), (3, .int 0), (2, .int x_6168), (0, .ref oM), (1, .int p0)]) [0, 1, 2, 3, 4] rfl
    have key_n_6182 : ∀ (n_6182 : Nat) (z_6169 : Int32) (z_6170 : Int32) (z_6171 : Int32) (z_6172 : Int32) (z_6173 : Int32) (z_6174 : Int32) (z_6175 : Int32) (z_6176 : Int32) (z_6177 : Int32) (z_6178 : Int32) (f_6179 : Nat → Int32) (f_6180 : Nat → Int32) (f_6181 : Nat → Int32) (H : Heap) (locs : List Loc) (ls : Array Slot), (0 ≤ z_6172.toInt ∧ z_6172.toInt ≤ 900) → (0 ≤ z_6175.toInt ∧ z_6175.toInt ≤ 900) → (0 ≤ z_6178.toInt ∧ z_6178.toInt ≤ 1) → (0 ≤ z_6169.toInt ∧ z_6169.toInt ≤ 4) → (0 ≤ z_6170.toInt ∧ z_6170.toInt ≤ 1) → (POk f_6180 f_6181) → (InOk f_6180 f_6181 (f_6180 1).toNatClampNeg z_6169.toNatClampNeg p0.toInt) → ((f_6180 1).toInt = (fM_fresh 1).toInt ∧ (f_6180 7).toInt = (fM_fresh 7).toInt ∧ (f_6180 8).toInt = (fM_fresh 8).toInt) → (ImpP (z_6170.toInt ≤ 0) (1 ≤ z_6169.toInt)) → (ImpP (z_6173.toInt = 2) (z_6175.toInt ≤ 8)) → (iM_end.toInt ≤ z_6172.toInt) → (ImpP (z_6178.toInt ≤ 0 ∧ z_6173.toInt = 59 ) (iM_end.toInt + 1 ≤ z_6172.toInt)) → (4 - z_6169.toInt).toNat < n_6182 → (PX7_innerLine fM_tape iM_size iM_at iM_end iM_token iM_whole iM_nameSize iM_fault iM_place fM_letters iM_failed fM_fresh fM_read fM_fresher iM_fresherSize p0 = HX7_innerLine_0 fM_tape iM_size p0 x_6165 f_6167 x_6168 n_6182 z_6169 z_6170 z_6171 z_6172 z_6173 z_6174 z_6175 z_6176 z_6177 z_6178 f_6179 f_6180 f_6181) → va_P (dC, dI) vwCl [(oc7 oM iM_thrown rM_tape iM_taped iM_size z_6171 z_6172 z_6173 z_6174 z_6175 z_6176 z_6177 iM_trouble rM_letters z_6178 iM_hasCourt rM_r rM_fresh rM_told rM_read rM_st rM_undone rM_kept iM_undos iM_images rM_fresher x_6165 iM_scale iM_night rM_heardRow rM_cutRow iM_breaths iM_cutMany iM_allBreaths rM_trial rM_words iM_fewestBreaths iM_orderMany iM_orderSum iM_leastOrder rM_often iM_setMany iM_someOf iM_allOf iM_allWeight iM_enoughWeight iM_worthSum iM_firstRest iM_leastDrawn), (arI rM_tape kM_tape 900 fM_tape), (arI rM_letters kM_letters 8 f_6179), (arI rM_fresh kM_fresh 287 f_6180), (arI rM_read kM_read 90 f_6181), (arI rM_fresher kM_fresher 8 f_6167)] H → va_D A [(oc7 oM iM_thrown rM_tape iM_taped iM_size z_6171 z_6172 z_6173 z_6174 z_6175 z_6176 z_6177 iM_trouble rM_letters z_6178 iM_hasCourt rM_r rM_fresh rM_told rM_read rM_st rM_undone rM_kept iM_undos iM_images rM_fresher x_6165 iM_scale iM_night rM_heardRow rM_cutRow iM_breaths iM_cutMany iM_allBreaths rM_trial rM_words iM_fewestBreaths iM_orderMany iM_orderSum iM_leastOrder rM_often iM_setMany iM_someOf iM_allOf iM_allWeight iM_enoughWeight iM_worthSum iM_firstRest iM_leastDrawn), (arI rM_tape kM_tape 900 fM_tape), (arI rM_letters kM_letters 8 f_6179), (arI rM_fresh kM_fresh 287 f_6180), (arI rM_read kM_read 90 f_6181), (arI rM_fresher kM_fresher 8 f_6167)] → va_S A s.heap H locs → lv_has ls 7 [(4, .int z_6170), (3, .int z_6169), (2, .int x_6168), (0, .ref oM), (1, .int p0)] → W p l e (headSpec (Cond.code yX7_innerLine cX7_innerLine 7 none :: wG) ({ frames := 7, cells := 0, slots := 0, locals := 175 })).room s m ([.ref oM, .int p0] : List Value).toArray below meth c H locs 0 0 (MQ below (va_Qv (fun (_ : Nat) => True) (fun (_ : Nat) (t : State) => ∃ (niM_at : Int32) (niM_end : Int32) (niM_token : Int32) (niM_whole : Int32) (niM_nameSize : Int32) (niM_fault : Int32) (niM_place : Int32) (niM_failed : Int32) (niM_fresherSize : Int32) (nfM_letters : Nat → Int32) (nfM_fresh : Nat → Int32) (nfM_read : Nat → Int32) (nfM_fresher : Nat → Int32), (0 ≤ niM_end.toInt ∧ niM_end.toInt ≤ 900) ∧ (0 ≤ niM_nameSize.toInt ∧ niM_nameSize.toInt ≤ 900) ∧ (0 ≤ niM_failed.toInt ∧ niM_failed.toInt ≤ 1) ∧ (iM_end.toInt ≤ niM_end.toInt) ∧ (ImpP (niM_token.toInt = 2) (niM_nameSize.toInt ≤ 8)) ∧ (iM_failed.toInt ≤ niM_failed.toInt) ∧ (ImpP (niM_failed.toInt ≤ 0 ∧ niM_token.toInt = 59 ) (iM_end.toInt + 1 ≤ niM_end.toInt)) ∧ (POk nfM_fresh nfM_read) ∧ (PX7_innerLine fM_tape iM_size iM_at iM_end iM_token iM_whole iM_nameSize iM_fault iM_place fM_letters iM_failed fM_fresh fM_read fM_fresher iM_fresherSize p0 = (niM_at, niM_end, niM_token, niM_whole, niM_nameSize, niM_fault, niM_place, niM_failed, niM_fresherSize, nfM_letters, nfM_fresh, nfM_read, nfM_fresher)) ∧ Bw dC dI A [(oc7 oM iM_thrown rM_tape iM_taped iM_size niM_at niM_end niM_token niM_whole niM_nameSize niM_fault niM_place iM_trouble rM_letters niM_failed iM_hasCourt rM_r rM_fresh rM_told rM_read rM_st rM_undone rM_kept iM_undos iM_images rM_fresher niM_fresherSize iM_scale iM_night rM_heardRow rM_cutRow iM_breaths iM_cutMany iM_allBreaths rM_trial rM_words iM_fewestBreaths iM_orderMany iM_orderSum iM_leastOrder rM_often iM_setMany iM_someOf iM_allOf iM_allWeight iM_enoughWeight iM_worthSum iM_firstRest iM_leastDrawn), (arI rM_tape kM_tape 900 fM_tape), (arI rM_letters kM_letters 8 nfM_letters), (arI rM_fresh kM_fresh 287 nfM_fresh), (arI rM_read kM_read 90 nfM_read), (arI rM_fresher kM_fresher 8 nfM_fresher)] [(kM_tape, .int), (kM_letters, .int), (kM_fresh, .int), (kM_read, .int), (kM_fresher, .int)] t) A) ([.ref oM, .int p0] : List Value).toArray s 0 0 A) (F0 m 24 ls []) := by
      intro n_6182
      induction n_6182 with
      | zero => intro z_6169 z_6170 z_6171 z_6172 z_6173 z_6174 z_6175 z_6176 z_6177 z_6178 f_6179 f_6180 f_6181 H locs ls b_z_6172 b_z_6175 b_z_6178 hi0_n_6182 hi1_n_6182 hi2_n_6182 hi3_n_6182 hi4_n_6182 hi5_n_6182 hi6_n_6182 hi7_n_6182 hi8_n_6182 hm; exact absurd hm (Nat.not_lt_zero _)
      | succ n_6182 ih_n_6182 =>
        intro z_6169 z_6170 z_6171 z_6172 z_6173 z_6174 z_6175 z_6176 z_6177 z_6178 f_6179 f_6180 f_6181 H locs ls b_z_6172 b_z_6175 b_z_6178 hi0_n_6182 hi1_n_6182 hi2_n_6182 hi3_n_6182 hi4_n_6182 hi5_n_6182 hi6_n_6182 hi7_n_6182 hi8_n_6182 hm_n_6182 hG hP hD hS hl
        have hG := hG.trans (HX7_innerLine_0_eq _ _ _ _ _ _ _ _ _ _ _ _ _ _ _ _ _ _ _ _)
        have pl_f_6180 := hi2_n_6182.lins
        refine lv_iload hx hb dX7_innerLine_24 (lv_at hl 0 rfl) ?_
        refine lv_if_eq (tgt := 198) hx hb dX7_innerLine_26 (by decide) (fun c_6183 => ?_) (fun c_6183 => ?_)
        · skip
          have hG := hG.trans (if_pos c_6183)
          have gc_6183 := ti_eq c_6183 rfl kc_0
          have h_6184 : 1 ≤ z_6169.toInt := hi5_n_6182 (om_02e9bb08 gc_6183)
          clear hi5_n_6182
          refine lv_aload_n hx hb dX7_innerLine_198 rfl (lv_at hl 3 rfl) ?_
          refine va_get (D := (dC, dI)) (ci := 7) (v := .int z_6178) (C := RX7) (T := TX7) (N := 48) hx hb hts inX7 hown hK hP 0 rfl rfl 13 (by decide) (hts _ wd_380) (fun _ h9 => h9) rfl dX7_innerLine_199 ?_
          refine lv_if_eq (tgt := 206) hx hb dX7_innerLine_202 (by decide) (fun c_6185 => ?_) (fun c_6185 => ?_)
          · skip
            have hG := hG.trans (if_pos c_6185)
            have gc_6185 := ti_eq c_6185 rfl kc_0
            refine lv_aload_n hx hb dX7_innerLine_206 rfl (lv_at hl 3 rfl) ?_
            refine va_get (D := (dC, dI)) (ci := 7) (v := .ref rM_fresh) (C := RX7) (T := TX7) (N := 48) hx hb hts inX7 hown hK hP 0 rfl rfl 16 (by decide) (hts _ wd_156) (fun _ h9 => h9) rfl dX7_innerLine_207 ?_
            refine lv_bipush (v := 27) hx hb dX7_innerLine_210 (by decide) ?_
            refine lv_iload_n hx hb dX7_innerLine_212 rfl (lv_at hl 2 rfl) ?_
            refine lv_iadd hx hb dX7_innerLine_213 ?_
            refine lv_topi (fun x_6186 ex_6186 => ?_)
            have hG := hG.trans (lt_eq ex_6186)
            have vx_6186 : x_6186.toInt = x_6168.toInt + 27 := om_6c48219a (ti_add ex_6186 kc_27 rfl (om_41e8b5f2 pl_fM_fresh.2.2.2.2.1.1 pl_fM_fresh.2.2.2.2.1.2 cx_6168) (om_2e953c3d pl_fM_fresh.2.1 pl_fM_fresh.2.2.1.2 pl_fM_fresh.2.2.2.2.2.1.2 cx_6168))
            refine lv_iload_n hx hb dX7_innerLine_214 rfl (lv_at hl 1 rfl) ?_
            refine va_iast hx hb hK hP hD hS 3 2 rfl rfl (ti_in vx_6186 (om_88805813 pl_fM_fresh.2.2.2.2.1.1 pl_fM_fresh.2.2.2.2.1.2 cx_6168) (om_400ea2f3 pl_fM_fresh.2.1 pl_fM_fresh.2.2.1.2 pl_fM_fresh.2.2.2.2.2.1.2 cx_6168)) dX7_innerLine_215 (fun H locs hP hD hS => ?_)
            obtain ⟨f_6187, ef_6187⟩ : ∃ g : Nat → Int32, g = upd f_6180 x_6186.toNatClampNeg z_6169 := ⟨_, rfl⟩
            rw [← ef_6187] at hP hD
            have hG := hG.trans (lt_eq ef_6187)
            obtain ⟨hP, hD⟩ := wl2 (ws' := [(oc7 oM iM_thrown rM_tape iM_taped iM_size z_6171 z_6172 z_6173 z_6174 z_6175 z_6176 z_6177 iM_trouble rM_letters z_6178 iM_hasCourt rM_r rM_fresh rM_told rM_read rM_st rM_undone rM_kept iM_undos iM_images rM_fresher x_6165 iM_scale iM_night rM_heardRow rM_cutRow iM_breaths iM_cutMany iM_allBreaths rM_trial rM_words iM_fewestBreaths iM_orderMany iM_orderSum iM_leastOrder rM_often iM_setMany iM_someOf iM_allOf iM_allWeight iM_enoughWeight iM_worthSum iM_firstRest iM_leastDrawn), (arI rM_tape kM_tape 900 fM_tape), (arI rM_letters kM_letters 8 f_6179), (arI rM_fresh kM_fresh 287 f_6187), (arI rM_read kM_read 90 f_6181), (arI rM_fresher kM_fresher 8 f_6167)]) hP hD rfl
            have o1_f_6187 : (f_6187 1).toInt = (f_6180 1).toInt := put_at ef_6187 (Nat.ne_of_lt (om_748d98c6 (ti_cl (x := x_6186) vx_6186 (om_88805813 pl_fM_fresh.2.2.2.2.1.1 pl_fM_fresh.2.2.2.2.1.2 cx_6168)) pl_fM_fresh.2.2.2.2.1.1 pl_fM_fresh.2.2.2.2.1.2 cx_6168))
            have o7_f_6187 : (f_6187 7).toInt = (f_6180 7).toInt := put_at ef_6187 (Nat.ne_of_lt (om_62246ba3 (ti_cl (x := x_6186) vx_6186 (om_88805813 pl_fM_fresh.2.2.2.2.1.1 pl_fM_fresh.2.2.2.2.1.2 cx_6168)) pl_fM_fresh.2.2.2.2.1.1 pl_fM_fresh.2.2.2.2.1.2 cx_6168))
            have o8_f_6187 : (f_6187 8).toInt = (f_6180 8).toInt := put_at ef_6187 (Nat.ne_of_lt (om_4d313e7b (ti_cl (x := x_6186) vx_6186 (om_88805813 pl_fM_fresh.2.2.2.2.1.1 pl_fM_fresh.2.2.2.2.1.2 cx_6168)) pl_fM_fresh.2.2.2.2.1.1 pl_fM_fresh.2.2.2.2.1.2 cx_6168))
            refine lv_aload_n hx hb dX7_innerLine_216 rfl (lv_at hl 3 rfl) ?_
            refine lv_iload_n hx hb dX7_innerLine_217 rfl (lv_at hl 4 rfl) ?_
            have hMs := ml_of hD [true, false, false, true, false, true] (wc := [(oc7 oM iM_thrown rM_tape iM_taped iM_size z_6171 z_6172 z_6173 z_6174 z_6175 z_6176 z_6177 iM_trouble rM_letters z_6178 iM_hasCourt rM_r rM_fresh rM_told rM_read rM_st rM_undone rM_kept iM_undos iM_images rM_fresher x_6165 iM_scale iM_night rM_heardRow rM_cutRow iM_breaths iM_cutMany iM_allBreaths rM_trial rM_words iM_fewestBreaths iM_orderMany iM_orderSum iM_leastOrder rM_often iM_setMany iM_someOf iM_allOf iM_allWeight iM_enoughWeight iM_worthSum iM_firstRest iM_leastDrawn), (arI rM_fresh kM_fresh 287 f_6187), (arI rM_fresher kM_fresher 8 f_6167)]) rfl
            have hFc := va_freeM hD hS hA _ hMs
            refine va_callv (va_runV (As := [.int p0]) (rest := []) ⟨hx, hb, hml, hown, hts⟩ (tX7_lay l dC dI _ oM iM_thrown rM_tape iM_taped iM_size z_6171 z_6172 z_6173 z_6174 z_6175 z_6176 z_6177 iM_trouble rM_letters z_6178 iM_hasCourt rM_r rM_fresh f_6187 kM_fresh rM_told rM_read rM_st rM_undone rM_kept iM_undos iM_images rM_fresher f_6167 kM_fresher x_6165 iM_scale iM_night rM_heardRow rM_cutRow iM_breaths iM_cutMany iM_allBreaths rM_trial rM_words iM_fewestBreaths iM_orderMany iM_orderSum iM_leastOrder rM_often iM_setMany iM_someOf iM_allOf iM_allWeight iM_enoughWeight iM_worthSum iM_firstRest iM_leastDrawn p0 b_iM_taped b_iM_size b_z_6172 b_z_6175 b_z_6178 b_iM_hasCourt b_iM_undos b_iM_images b_iM_scale b_iM_breaths b_iM_cutMany hi6_n_6182 (om_02e9bb08 gc_6185) ⟨(om_a12d6474 pl_f_6180.2.2.2.2.1.1 pl_f_6180.2.2.2.2.1.2 o1_f_6187), (om_10e45097 pl_fM_fresh.2.1 pl_fM_fresh.2.2.1.2 h_6156 hi4_n_6182.1 o1_f_6187)⟩) (cwV 1 hts (wd_V wd_478 wd_479 wd_480 wd_5 (wd_c wd_481)) rfl rfl rfl dv_yX7_lay_1 ⟨Nat.le_of_ble_eq_true rfl, Nat.le_of_ble_eq_true rfl⟩) ⟨Pw.fb, recvX7 hK hP (q0 := 0) rfl, fun U hU hW => Pw.to (hP.ms _ hMs) (hD.ms _ hMs) (hK.ms [false, false, true, false, true] rfl) hE hS hFc hU hW⟩ rfl rfl hl.1 rfl (lv_room (Nat.le_of_ble_eq_true rfl)) dX7_innerLine_218 ⟨Nat.le_of_ble_eq_true rfl, Nat.le_of_ble_eq_true rfl⟩) hS (fun q _ h => hFc q h) hFc (fun u t H locs ht hvm hw hB hz1 hk1 hS => ?_)
            refine ex_1_2 hB (fun f_6188 e_f_6188_0 e_f_6188_1 hB => ?_)
            obtain ⟨hP, hD⟩ := Bw.goN (ws' := [(oc7 oM iM_thrown rM_tape iM_taped iM_size z_6171 z_6172 z_6173 z_6174 z_6175 z_6176 z_6177 iM_trouble rM_letters z_6178 iM_hasCourt rM_r rM_fresh rM_told rM_read rM_st rM_undone rM_kept iM_undos iM_images rM_fresher x_6165 iM_scale iM_night rM_heardRow rM_cutRow iM_breaths iM_cutMany iM_allBreaths rM_trial rM_words iM_fewestBreaths iM_orderMany iM_orderSum iM_leastOrder rM_often iM_setMany iM_someOf iM_allOf iM_allWeight iM_enoughWeight iM_worthSum iM_firstRest iM_leastDrawn), (arI rM_tape kM_tape 900 fM_tape), (arI rM_letters kM_letters 8 f_6179), (arI rM_fresh kM_fresh 287 f_6188), (arI rM_read kM_read 90 f_6181), (arI rM_fresher kM_fresher 8 f_6167)]) hB rfl ht hP hD _ hMs hk1 hFc rfl
            clear hz1 hk1 hvm ht hB hMs
            have o2_f_6188 : (f_6188 2).toInt = (f_6187 2).toInt := by rw [(e_f_6188_0).2.2.1 2 (by decide) (by decide) (Nat.ne_of_lt (Nat.lt_of_lt_of_le (by decide) (Nat.le_add_right 9 _)))]
            have o7_f_6188 : (f_6188 7).toInt = (f_6187 7).toInt := by rw [(e_f_6188_0).2.2.1 7 (by decide) (by decide) (Nat.ne_of_lt (Nat.lt_of_lt_of_le (by decide) (Nat.le_add_right 9 _)))]
            have o8_f_6188 : (f_6188 8).toInt = (f_6187 8).toInt := by rw [(e_f_6188_0).2.2.1 8 (by decide) (by decide) (Nat.ne_of_lt (Nat.lt_of_lt_of_le (by decide) (Nat.le_add_right 9 _)))]
            have hG := hG.trans (lt_eq e_f_6188_1.symm)
            refine lv_aload_n hx hb dX7_innerLine_221 rfl (lv_at hl 3 rfl) ?_
            refine va_get (D := (dC, dI)) (ci := 7) (v := .ref rM_fresh) (C := RX7) (T := TX7) (N := 48) hx hb hts inX7 hown hK hP 0 rfl rfl 16 (by decide) (hts _ wd_156) (fun _ h9 => h9) rfl dX7_innerLine_222 ?_
            refine lv_bipush (v := 7) hx hb dX7_innerLine_225 (by decide) ?_
            refine lv_dup2_11 hx hb dX7_innerLine_227 rfl rfl ?_
            refine va_iald hx hb hK hP 3 2 rfl rfl (by unfold vp_in; decide) dX7_innerLine_228 ?_
            refine lv_topi (fun x_6189 ex_6189 => ?_)
            have hG := hG.trans (lt_eq ex_6189)
            have cx_6189 : (f_6188 7).toInt = x_6189.toInt := congrArg Int32.toInt (show f_6188 7 = x_6189 from ex_6189.symm)
            refine lv_iconst (v := 1) hx hb dX7_innerLine_229 (by decide) ?_
            refine lv_iadd hx hb dX7_innerLine_230 ?_
            refine lv_topi (fun x_6190 ex_6190 => ?_)
            have hG := hG.trans (lt_eq ex_6190)
            have vx_6190 : x_6190.toInt = x_6189.toInt + 1 := ti_add ex_6190 rfl kc_1 (om_5f3e4666 pl_f_6180.2.2.2.2.2.1.1 o7_f_6187 o7_f_6188 cx_6189) (om_ac8e3760 pl_f_6180.2.2.2.2.2.1.2 o7_f_6187 o7_f_6188 cx_6189)
            refine va_iast hx hb hK hP hD hS 3 2 rfl rfl (by unfold vp_in; decide) dX7_innerLine_231 (fun H locs hP hD hS => ?_)
            obtain ⟨f_6191, ef_6191⟩ : ∃ g : Nat → Int32, g = upd f_6188 (7 : Int32).toNatClampNeg x_6190 := ⟨_, rfl⟩
            rw [← ef_6191] at hP hD
            have hG := hG.trans (lt_eq ef_6191)
            obtain ⟨hP, hD⟩ := wl2 (ws' := [(oc7 oM iM_thrown rM_tape iM_taped iM_size z_6171 z_6172 z_6173 z_6174 z_6175 z_6176 z_6177 iM_trouble rM_letters z_6178 iM_hasCourt rM_r rM_fresh rM_told rM_read rM_st rM_undone rM_kept iM_undos iM_images rM_fresher x_6165 iM_scale iM_night rM_heardRow rM_cutRow iM_breaths iM_cutMany iM_allBreaths rM_trial rM_words iM_fewestBreaths iM_orderMany iM_orderSum iM_leastOrder rM_often iM_setMany iM_someOf iM_allOf iM_allWeight iM_enoughWeight iM_worthSum iM_firstRest iM_leastDrawn), (arI rM_tape kM_tape 900 fM_tape), (arI rM_letters kM_letters 8 f_6179), (arI rM_fresh kM_fresh 287 f_6191), (arI rM_read kM_read 90 f_6181), (arI rM_fresher kM_fresher 8 f_6167)]) hP hD rfl
            have o8_f_6191 : (f_6191 8).toInt = (f_6188 8).toInt := put_at ef_6191 (by decide)
            refine lv_aload_n hx hb dX7_innerLine_232 rfl (lv_at hl 3 rfl) ?_
            refine va_get (D := (dC, dI)) (ci := 7) (v := .ref rM_fresh) (C := RX7) (T := TX7) (N := 48) hx hb hts inX7 hown hK hP 0 rfl rfl 16 (by decide) (hts _ wd_156) (fun _ h9 => h9) rfl dX7_innerLine_233 ?_
            refine lv_bipush (v := 8) hx hb dX7_innerLine_236 (by decide) ?_
            refine lv_dup2_11 hx hb dX7_innerLine_238 rfl rfl ?_
            refine va_iald hx hb hK hP 3 2 rfl rfl (by unfold vp_in; decide) dX7_innerLine_239 ?_
            refine lv_topi (fun x_6192 ex_6192 => ?_)
            have hG := hG.trans (lt_eq ex_6192)
            have cx_6192 : (f_6191 8).toInt = x_6192.toInt := congrArg Int32.toInt (show f_6191 8 = x_6192 from ex_6192.symm)
            refine lv_iload_n hx hb dX7_innerLine_240 rfl (lv_at hl 4 rfl) ?_
            refine lv_iconst (v := 3) hx hb dX7_innerLine_241 (by decide) ?_
            refine lv_icmp_ne (tgt := 249) hx hb dX7_innerLine_242 (by decide) (fun c_6193 => ?_) (fun c_6193 => ?_)
            · skip
              have hG := hG.trans (if_neg c_6193)
              have gc_6193 := ti_ne c_6193 rfl kc_3
              replace gc_6193 : p0.toInt + (-2) ≤ 0 := om_b7ea5ffe gc_6193 hp0.2
              clear hic
              refine lv_iconst (v := 0) hx hb dX7_innerLine_249 (by decide) ?_
              refine lv_iadd hx hb dX7_innerLine_250 ?_
              refine lv_topi (fun x_6194 ex_6194 => ?_)
              have hG := hG.trans (lt_eq ex_6194)
              have vx_6194 : x_6194.toInt = x_6192.toInt := om_75165550 (ti_add ex_6194 rfl kc_0 (om_5483085b pl_f_6180.2.2.2.2.2.2.1 o8_f_6187 o8_f_6188 o8_f_6191 cx_6192) (om_2ab9c540 pl_f_6180.2.2.2.2.2.2.2 o8_f_6187 o8_f_6188 o8_f_6191 cx_6192))
              refine va_iast hx hb hK hP hD hS 3 2 rfl rfl (by unfold vp_in; decide) dX7_innerLine_251 (fun H locs hP hD hS => ?_)
              obtain ⟨f_6195, ef_6195⟩ : ∃ g : Nat → Int32, g = upd f_6191 (8 : Int32).toNatClampNeg x_6194 := ⟨_, rfl⟩
              rw [← ef_6195] at hP hD
              have hG := hG.trans (lt_eq ef_6195)
              obtain ⟨hP, hD⟩ := wl2 (ws' := [(oc7 oM iM_thrown rM_tape iM_taped iM_size z_6171 z_6172 z_6173 z_6174 z_6175 z_6176 z_6177 iM_trouble rM_letters z_6178 iM_hasCourt rM_r rM_fresh rM_told rM_read rM_st rM_undone rM_kept iM_undos iM_images rM_fresher x_6165 iM_scale iM_night rM_heardRow rM_cutRow iM_breaths iM_cutMany iM_allBreaths rM_trial rM_words iM_fewestBreaths iM_orderMany iM_orderSum iM_leastOrder rM_often iM_setMany iM_someOf iM_allOf iM_allWeight iM_enoughWeight iM_worthSum iM_firstRest iM_leastDrawn), (arI rM_tape kM_tape 900 fM_tape), (arI rM_letters kM_letters 8 f_6179), (arI rM_fresh kM_fresh 287 f_6195), (arI rM_read kM_read 90 f_6181), (arI rM_fresher kM_fresher 8 f_6167)]) hP hD rfl
              have pk_f_6195 : POk f_6195 f_6181 := POk.inner (f := f_6180) (m := z_6169.toNatClampNeg) hi2_n_6182 ef_6187 (by have q9 := ti_cl (x := x_6186) vx_6186 (om_88805813 pl_fM_fresh.2.2.2.2.1.1 pl_fM_fresh.2.2.2.2.1.2 cx_6168); have q2 := ti_cl (x := f_6180 1) rfl (by omega); omega) (by have q3 := ti_cl (x := z_6169) rfl hi0_n_6182.1; omega) (by have q3 := ti_cl (x := z_6169) rfl hi0_n_6182.1; omega) (by have q3 := ti_cl (x := z_6169) rfl hi0_n_6182.1; omega) e_f_6188_0 (by omega) ef_6191 rfl (by have q := vx_6190; omega) ef_6195 rfl (by have q := vx_6194; have q0 := kc_0; have q1 := kc_1; first | (rw [if_pos (by omega)]; omega) | (rw [if_neg (by omega)]; omega)) (by omega) (fun h9 => by omega) hi3_n_6182
              have pl_f_6195 := pk_f_6195.lins
              exact wq_v hx hb hr 0 trivial (fun t ht hW => ⟨z_6171, z_6172, z_6173, z_6174, z_6175, z_6176, z_6177, z_6178, x_6165, f_6179, f_6195, f_6181, f_6167, b_z_6172, b_z_6175, b_z_6178, hi7_n_6182, hi6_n_6182, (om_1fc3dec6 gc_6155 b_z_6178.1), hi8_n_6182, pk_f_6195, hG, Bw.to hP hD hK ht hW⟩) hS dX7_innerLine_252 hlocks
            · skip
              have hG := hG.trans (if_pos c_6193)
              have gc_6193 := ti_eq c_6193 rfl kc_3
              have h_6196 : (fM_fresh 8).toInt ≤ 1 := hic ⟨(om_02e9bb08 gc_6155), (om_ce492ef9 hp0.2 gc_6193)⟩
              clear hic
              refine lv_iconst (v := 1) hx hb dX7_innerLine_245 (by decide) ?_
              refine lv_goto (tgt := 250) hx hb dX7_innerLine_246 (by decide) ?_
              refine lv_iadd hx hb dX7_innerLine_250 ?_
              refine lv_topi (fun x_6197 ex_6197 => ?_)
              have hG := hG.trans (lt_eq ex_6197)
              have vx_6197 : x_6197.toInt = x_6192.toInt + 1 := ti_add ex_6197 rfl kc_1 (om_d0c17b76 pl_f_6180.2.2.2.2.2.2.1 o8_f_6187 o8_f_6188 o8_f_6191 cx_6192) (om_387097be pl_f_6180.2.2.2.2.2.2.2 o8_f_6187 o8_f_6188 o8_f_6191 cx_6192)
              refine va_iast hx hb hK hP hD hS 3 2 rfl rfl (by unfold vp_in; decide) dX7_innerLine_251 (fun H locs hP hD hS => ?_)
              obtain ⟨f_6198, ef_6198⟩ : ∃ g : Nat → Int32, g = upd f_6191 (8 : Int32).toNatClampNeg x_6197 := ⟨_, rfl⟩
              rw [← ef_6198] at hP hD
              have hG := hG.trans (lt_eq ef_6198)
              obtain ⟨hP, hD⟩ := wl2 (ws' := [(oc7 oM iM_thrown rM_tape iM_taped iM_size z_6171 z_6172 z_6173 z_6174 z_6175 z_6176 z_6177 iM_trouble rM_letters z_6178 iM_hasCourt rM_r rM_fresh rM_told rM_read rM_st rM_undone rM_kept iM_undos iM_images rM_fresher x_6165 iM_scale iM_night rM_heardRow rM_cutRow iM_breaths iM_cutMany iM_allBreaths rM_trial rM_words iM_fewestBreaths iM_orderMany iM_orderSum iM_leastOrder rM_often iM_setMany iM_someOf iM_allOf iM_allWeight iM_enoughWeight iM_worthSum iM_firstRest iM_leastDrawn), (arI rM_tape kM_tape 900 fM_tape), (arI rM_letters kM_letters 8 f_6179), (arI rM_fresh kM_fresh 287 f_6198), (arI rM_read kM_read 90 f_6181), (arI rM_fresher kM_fresher 8 f_6167)]) hP hD rfl
              have pk_f_6198 : POk f_6198 f_6181 := POk.inner (f := f_6180) (m := z_6169.toNatClampNeg) hi2_n_6182 ef_6187 (by have q9 := ti_cl (x := x_6186) vx_6186 (om_88805813 pl_fM_fresh.2.2.2.2.1.1 pl_fM_fresh.2.2.2.2.1.2 cx_6168); have q2 := ti_cl (x := f_6180 1) rfl (by omega); omega) (by have q3 := ti_cl (x := z_6169) rfl hi0_n_6182.1; omega) (by have q3 := ti_cl (x := z_6169) rfl hi0_n_6182.1; omega) (by have q3 := ti_cl (x := z_6169) rfl hi0_n_6182.1; omega) e_f_6188_0 (by omega) ef_6191 rfl (by have q := vx_6190; omega) ef_6198 rfl (by have q := vx_6197; have q0 := kc_0; have q1 := kc_1; first | (rw [if_pos (by omega)]; omega) | (rw [if_neg (by omega)]; omega)) (by omega) (fun h9 => by omega) hi3_n_6182
              have pl_f_6198 := pk_f_6198.lins
              exact wq_v hx hb hr 0 trivial (fun t ht hW => ⟨z_6171, z_6172, z_6173, z_6174, z_6175, z_6176, z_6177, z_6178, x_6165, f_6179, f_6198, f_6181, f_6167, b_z_6172, b_z_6175, b_z_6178, hi7_n_6182, hi6_n_6182, (om_1fc3dec6 gc_6155 b_z_6178.1), hi8_n_6182, pk_f_6198, hG, Bw.to hP hD hK ht hW⟩) hS dX7_innerLine_252 hlocks
          · skip
            have hG := hG.trans (if_neg c_6185)
            have gc_6185 := ti_ne c_6185 rfl kc_0
            replace gc_6185 : (-1) * z_6178.toInt + 1 ≤ 0 := om_e3003f79 gc_6185 b_z_6178.1
            exact wq_v hx hb hr 0 trivial (fun t ht hW => ⟨z_6171, z_6172, z_6173, z_6174, z_6175, z_6176, z_6177, z_6178, x_6165, f_6179, f_6180, f_6181, f_6167, b_z_6172, b_z_6175, b_z_6178, hi7_n_6182, hi6_n_6182, (om_1fc3dec6 gc_6155 b_z_6178.1), hi8_n_6182, hi2_n_6182, hG, Bw.to hP hD hK ht hW⟩) hS dX7_innerLine_205 hlocks
        · skip
          have hG := hG.trans (if_neg c_6183)
          have gc_6183 := ti_ne c_6183 rfl kc_0
          replace gc_6183 : (-1) * z_6170.toInt + 1 ≤ 0 := om_e3003f79 gc_6183 hi1_n_6182.1
          clear hi5_n_6182
          refine lv_aload_n hx hb dX7_innerLine_29 rfl (lv_at hl 3 rfl) ?_
          refine va_get (D := (dC, dI)) (ci := 7) (v := .int z_6178) (C := RX7) (T := TX7) (N := 48) hx hb hts inX7 hown hK hP 0 rfl rfl 13 (by decide) (hts _ wd_380) (fun _ h9 => h9) rfl dX7_innerLine_30 ?_
          refine lv_if_ne (tgt := 198) hx hb dX7_innerLine_33 (by decide) (fun c_6199 => ?_) (fun c_6199 => ?_)
          · skip
            have hG := hG.trans (if_neg c_6199)
            have gc_6199 := ti_ne c_6199 rfl kc_0
            replace gc_6199 : (-1) * z_6178.toInt + 1 ≤ 0 := om_e3003f79 gc_6199 b_z_6178.1
            refine lv_aload_n hx hb dX7_innerLine_198 rfl (lv_at hl 3 rfl) ?_
            refine va_get (D := (dC, dI)) (ci := 7) (v := .int z_6178) (C := RX7) (T := TX7) (N := 48) hx hb hts inX7 hown hK hP 0 rfl rfl 13 (by decide) (hts _ wd_380) (fun _ h9 => h9) rfl dX7_innerLine_199 ?_
            refine lv_if_eq (tgt := 206) hx hb dX7_innerLine_202 (by decide) (fun c_6200 => ?_) (fun c_6200 => ?_)
            · skip
              have hG := hG.trans (if_pos c_6200)
              have gc_6200 := ti_eq c_6200 rfl kc_0
              exact ((om_77e4ddb5 gc_6199 gc_6200)).elim
            · skip
              have hG := hG.trans (if_neg c_6200)
              have gc_6200 := ti_ne c_6200 rfl kc_0
              replace gc_6200 : (-1) * z_6178.toInt + 1 ≤ 0 := om_e3003f79 gc_6200 b_z_6178.1
              exact wq_v hx hb hr 0 trivial (fun t ht hW => ⟨z_6171, z_6172, z_6173, z_6174, z_6175, z_6176, z_6177, z_6178, x_6165, f_6179, f_6180, f_6181, f_6167, b_z_6172, b_z_6175, b_z_6178, hi7_n_6182, hi6_n_6182, (om_1fc3dec6 gc_6155 b_z_6178.1), hi8_n_6182, hi2_n_6182, hG, Bw.to hP hD hK ht hW⟩) hS dX7_innerLine_205 hlocks
          · skip
            have hG := hG.trans (if_pos c_6199)
            have gc_6199 := ti_eq c_6199 rfl kc_0
            refine lv_aload_n hx hb dX7_innerLine_36 rfl (lv_at hl 3 rfl) ?_
            have hMs := ml_of hD [true, false, true, true, true, false] (wc := [(oc7 oM iM_thrown rM_tape iM_taped iM_size z_6171 z_6172 z_6173 z_6174 z_6175 z_6176 z_6177 iM_trouble rM_letters z_6178 iM_hasCourt rM_r rM_fresh rM_told rM_read rM_st rM_undone rM_kept iM_undos iM_images rM_fresher x_6165 iM_scale iM_night rM_heardRow rM_cutRow iM_breaths iM_cutMany iM_allBreaths rM_trial rM_words iM_fewestBreaths iM_orderMany iM_orderSum iM_leastOrder rM_often iM_setMany iM_someOf iM_allOf iM_allWeight iM_enoughWeight iM_worthSum iM_firstRest iM_leastDrawn), (arI rM_letters kM_letters 8 f_6179), (arI rM_fresh kM_fresh 287 f_6180), (arI rM_read kM_read 90 f_6181)]) rfl
            have hFc := va_freeM hD hS hA _ hMs
            refine va_calli (va_runV (As := []) (rest := []) ⟨hx, hb, hml, hown, hts⟩ (tX7_nodeHere l dC dI _ oM iM_thrown rM_tape iM_taped iM_size z_6171 z_6172 z_6173 z_6174 z_6175 z_6176 z_6177 iM_trouble rM_letters f_6179 kM_letters z_6178 iM_hasCourt rM_r rM_fresh f_6180 kM_fresh rM_told rM_read f_6181 kM_read rM_st rM_undone rM_kept iM_undos iM_images rM_fresher x_6165 iM_scale iM_night rM_heardRow rM_cutRow iM_breaths iM_cutMany iM_allBreaths rM_trial rM_words iM_fewestBreaths iM_orderMany iM_orderSum iM_leastOrder rM_often iM_setMany iM_someOf iM_allOf iM_allWeight iM_enoughWeight iM_worthSum iM_firstRest iM_leastDrawn b_iM_taped b_iM_size b_z_6172 b_z_6175 b_z_6178 b_iM_hasCourt b_iM_undos b_iM_images b_iM_scale b_iM_breaths b_iM_cutMany hi6_n_6182 hi2_n_6182) (cwV 0 hts (wd_V wd_486 wd_487 wd_488 wd_5 (wd_c wd_489)) rfl rfl rfl dv_yX7_nodeHere_0 ⟨Nat.le_of_ble_eq_true rfl, Nat.le_of_ble_eq_true rfl⟩) ⟨Pw.fb, recvX7 hK hP (q0 := 0) rfl, fun U hU hW => Pw.to (hP.ms _ hMs) (hD.ms _ hMs) (hK.ms [false, true, true, true, false] rfl) hE hS hFc hU hW⟩ rfl rfl hl.1 rfl (lv_room (Nat.le_of_ble_eq_true rfl)) dX7_innerLine_37 ⟨Nat.le_of_ble_eq_true rfl, Nat.le_of_ble_eq_true rfl⟩) hS (fun q _ h => hFc q h) hFc (fun r u t H locs ht hvm hw hB hz1 hk1 hS => ?_)
            have hru9 := hw.2
            have hw := hw.1
            refine ex_3_4 hB (fun x_6201 x_6202 x_6203 b_x_6203 e_x_6201_0 e_x_6201_1 e_x_6201_2 hB => ?_)
            obtain ⟨hP, hD⟩ := Bw.goN (ws' := [(oc7 oM iM_thrown rM_tape iM_taped iM_size z_6171 z_6172 z_6173 z_6174 z_6175 x_6201 x_6202 iM_trouble rM_letters x_6203 iM_hasCourt rM_r rM_fresh rM_told rM_read rM_st rM_undone rM_kept iM_undos iM_images rM_fresher x_6165 iM_scale iM_night rM_heardRow rM_cutRow iM_breaths iM_cutMany iM_allBreaths rM_trial rM_words iM_fewestBreaths iM_orderMany iM_orderSum iM_leastOrder rM_often iM_setMany iM_someOf iM_allOf iM_allWeight iM_enoughWeight iM_worthSum iM_firstRest iM_leastDrawn), (arI rM_tape kM_tape 900 fM_tape), (arI rM_letters kM_letters 8 f_6179), (arI rM_fresh kM_fresh 287 f_6180), (arI rM_read kM_read 90 f_6181), (arI rM_fresher kM_fresher 8 f_6167)]) hB rfl ht hP hD _ hMs hk1 hFc rfl
            clear hz1 hk1 hvm ht hB hMs
            rw [← hru9] at e_x_6201_2
            obtain ⟨x_6204, rfl⟩ : ∃ z, z = r := ⟨_, rfl⟩
            have hG := hG.trans (un4_eq e_x_6201_2)
            have lx_6204 := hw.2
            have ux_6204 := hw.2
            refine lv_istore (lv' := [(5, .int x_6204), (4, .int z_6170), (3, .int z_6169), (2, .int x_6168), (0, .ref oM), (1, .int p0)]) hx hb dX7_innerLine_40 hl (by decide) rfl (fun ls hl => ?_)
            refine lv_iconst (v := 0) hx hb dX7_innerLine_42 (by decide) ?_
            refine lv_istore (lv' := [(6, .int 0), (5, .int x_6204), (4, .int z_6170), (3, .int z_6169), (2, .int x_6168), (0, .ref oM), (1, .int p0)]) hx hb dX7_innerLine_43 hl (by decide) rfl (fun ls hl => ?_)
            have hl := lv_sub hl (l' := [(6, .int 0), (5, .int x_6204), (4, .int z_6170), (3, .int z_6169), (2, .int x_6168), (0, .ref oM), (1, .int p0)]) [0, 1, 2, 3, 4, 5, 6] rfl
            have key_n_6209 : ∀ (n_6209 : Nat) (z_6205 : Int32) (z_6206 : Int32) (z_6207 : Int32) (z_6208 : Int32) (H : Heap) (locs : List Loc) (ls : Array Slot), (0 ≤ z_6206.toInt ∧ z_6206.toInt ≤ 1) → (0 ≤ z_6205.toInt ∧ z_6205.toInt ≤ z_6169.toInt) → (x_6203.toInt ≤ z_6206.toInt) → (NeI z_6206.toInt z_6205.toNatClampNeg f_6181 x_6168.toNatClampNeg x_6204.toInt) → (z_6169.toInt - z_6205.toInt).toNat < n_6209 → (PX7_innerLine fM_tape iM_size iM_at iM_end iM_token iM_whole iM_nameSize iM_fault iM_place fM_letters iM_failed fM_fresh fM_read fM_fresher iM_fresherSize p0 = HX7_innerLine_1 fM_tape iM_size p0 x_6165 f_6167 x_6168 z_6169 z_6171 z_6172 z_6173 z_6174 z_6175 f_6179 f_6180 f_6181 x_6204 (fun (z_6169 : Int32) (z_6170 : Int32) (z_6171 : Int32) (z_6172 : Int32) (z_6173 : Int32) (z_6174 : Int32) (z_6175 : Int32) (z_6176 : Int32) (z_6177 : Int32) (z_6178 : Int32) (f_6179 : Nat → Int32) (f_6180 : Nat → Int32) (f_6181 : Nat → Int32) => HX7_innerLine_0 fM_tape iM_size p0 x_6165 f_6167 x_6168 n_6182 z_6169 z_6170 z_6171 z_6172 z_6173 z_6174 z_6175 z_6176 z_6177 z_6178 f_6179 f_6180 f_6181) n_6209 z_6205 z_6206 z_6207 z_6208) → va_P (dC, dI) vwCl [(oc7 oM iM_thrown rM_tape iM_taped iM_size z_6171 z_6172 z_6173 z_6174 z_6175 z_6207 z_6208 iM_trouble rM_letters z_6206 iM_hasCourt rM_r rM_fresh rM_told rM_read rM_st rM_undone rM_kept iM_undos iM_images rM_fresher x_6165 iM_scale iM_night rM_heardRow rM_cutRow iM_breaths iM_cutMany iM_allBreaths rM_trial rM_words iM_fewestBreaths iM_orderMany iM_orderSum iM_leastOrder rM_often iM_setMany iM_someOf iM_allOf iM_allWeight iM_enoughWeight iM_worthSum iM_firstRest iM_leastDrawn), (arI rM_tape kM_tape 900 fM_tape), (arI rM_letters kM_letters 8 f_6179), (arI rM_fresh kM_fresh 287 f_6180), (arI rM_read kM_read 90 f_6181), (arI rM_fresher kM_fresher 8 f_6167)] H → va_D A [(oc7 oM iM_thrown rM_tape iM_taped iM_size z_6171 z_6172 z_6173 z_6174 z_6175 z_6207 z_6208 iM_trouble rM_letters z_6206 iM_hasCourt rM_r rM_fresh rM_told rM_read rM_st rM_undone rM_kept iM_undos iM_images rM_fresher x_6165 iM_scale iM_night rM_heardRow rM_cutRow iM_breaths iM_cutMany iM_allBreaths rM_trial rM_words iM_fewestBreaths iM_orderMany iM_orderSum iM_leastOrder rM_often iM_setMany iM_someOf iM_allOf iM_allWeight iM_enoughWeight iM_worthSum iM_firstRest iM_leastDrawn), (arI rM_tape kM_tape 900 fM_tape), (arI rM_letters kM_letters 8 f_6179), (arI rM_fresh kM_fresh 287 f_6180), (arI rM_read kM_read 90 f_6181), (arI rM_fresher kM_fresher 8 f_6167)] → va_S A s.heap H locs → lv_has ls 7 [(6, .int z_6205), (5, .int x_6204), (4, .int z_6170), (3, .int z_6169), (2, .int x_6168), (0, .ref oM), (1, .int p0)] → W p l e (headSpec (Cond.code yX7_innerLine cX7_innerLine 7 none :: wG) ({ frames := 7, cells := 0, slots := 0, locals := 175 })).room s m ([.ref oM, .int p0] : List Value).toArray below meth c H locs 0 0 (MQ below (va_Qv (fun (_ : Nat) => True) (fun (_ : Nat) (t : State) => ∃ (niM_at : Int32) (niM_end : Int32) (niM_token : Int32) (niM_whole : Int32) (niM_nameSize : Int32) (niM_fault : Int32) (niM_place : Int32) (niM_failed : Int32) (niM_fresherSize : Int32) (nfM_letters : Nat → Int32) (nfM_fresh : Nat → Int32) (nfM_read : Nat → Int32) (nfM_fresher : Nat → Int32), (0 ≤ niM_end.toInt ∧ niM_end.toInt ≤ 900) ∧ (0 ≤ niM_nameSize.toInt ∧ niM_nameSize.toInt ≤ 900) ∧ (0 ≤ niM_failed.toInt ∧ niM_failed.toInt ≤ 1) ∧ (iM_end.toInt ≤ niM_end.toInt) ∧ (ImpP (niM_token.toInt = 2) (niM_nameSize.toInt ≤ 8)) ∧ (iM_failed.toInt ≤ niM_failed.toInt) ∧ (ImpP (niM_failed.toInt ≤ 0 ∧ niM_token.toInt = 59 ) (iM_end.toInt + 1 ≤ niM_end.toInt)) ∧ (POk nfM_fresh nfM_read) ∧ (PX7_innerLine fM_tape iM_size iM_at iM_end iM_token iM_whole iM_nameSize iM_fault iM_place fM_letters iM_failed fM_fresh fM_read fM_fresher iM_fresherSize p0 = (niM_at, niM_end, niM_token, niM_whole, niM_nameSize, niM_fault, niM_place, niM_failed, niM_fresherSize, nfM_letters, nfM_fresh, nfM_read, nfM_fresher)) ∧ Bw dC dI A [(oc7 oM iM_thrown rM_tape iM_taped iM_size niM_at niM_end niM_token niM_whole niM_nameSize niM_fault niM_place iM_trouble rM_letters niM_failed iM_hasCourt rM_r rM_fresh rM_told rM_read rM_st rM_undone rM_kept iM_undos iM_images rM_fresher niM_fresherSize iM_scale iM_night rM_heardRow rM_cutRow iM_breaths iM_cutMany iM_allBreaths rM_trial rM_words iM_fewestBreaths iM_orderMany iM_orderSum iM_leastOrder rM_often iM_setMany iM_someOf iM_allOf iM_allWeight iM_enoughWeight iM_worthSum iM_firstRest iM_leastDrawn), (arI rM_tape kM_tape 900 fM_tape), (arI rM_letters kM_letters 8 nfM_letters), (arI rM_fresh kM_fresh 287 nfM_fresh), (arI rM_read kM_read 90 nfM_read), (arI rM_fresher kM_fresher 8 nfM_fresher)] [(kM_tape, .int), (kM_letters, .int), (kM_fresh, .int), (kM_read, .int), (kM_fresher, .int)] t) A) ([.ref oM, .int p0] : List Value).toArray s 0 0 A) (F0 m 45 ls []) := by
              intro n_6209
              induction n_6209 with
              | zero => intro z_6205 z_6206 z_6207 z_6208 H locs ls b_z_6206 hi0_n_6209 hi1_n_6209 hi2_n_6209 hm; exact absurd hm (Nat.not_lt_zero _)
              | succ n_6209 ih_n_6209 =>
                intro z_6205 z_6206 z_6207 z_6208 H locs ls b_z_6206 hi0_n_6209 hi1_n_6209 hi2_n_6209 hm_n_6209 hG hP hD hS hl
                have hG := hG.trans (HX7_innerLine_1_eq _ _ _ _ _ _ _ _ _ _ _ _ _ _ _ _ _ _ _ _ _ _)
                refine lv_iload hx hb dX7_innerLine_45 (lv_at hl 0 rfl) ?_
                refine lv_iload_n hx hb dX7_innerLine_47 rfl (lv_at hl 3 rfl) ?_
                refine lv_icmp_ge (tgt := 89) hx hb dX7_innerLine_48 (by decide) (fun c_6210 => ?_) (fun c_6210 => ?_)
                · skip
                  have hG := hG.trans (if_pos c_6210)
                  have gc_6210 := ti_le c_6210 rfl rfl
                  refine lv_aload_n hx hb dX7_innerLine_89 rfl (lv_at hl 5 rfl) ?_
                  refine va_get (D := (dC, dI)) (ci := 7) (v := .int z_6206) (C := RX7) (T := TX7) (N := 48) hx hb hts inX7 hown hK hP 0 rfl rfl 13 (by decide) (hts _ wd_380) (fun _ h9 => h9) rfl dX7_innerLine_90 ?_
                  refine lv_if_ne (tgt := 110) hx hb dX7_innerLine_93 (by decide) (fun c_6211 => ?_) (fun c_6211 => ?_)
                  · skip
                    have hG := hG.trans (if_neg c_6211)
                    have gc_6211 := ti_ne c_6211 rfl kc_0
                    replace gc_6211 : (-1) * z_6206.toInt + 1 ≤ 0 := om_e3003f79 gc_6211 b_z_6206.1
                    refine lv_aload_n hx hb dX7_innerLine_110 rfl (lv_at hl 5 rfl) ?_
                    have hMs := ml_of hD [true, true, true, false, false, false] (wc := [(oc7 oM iM_thrown rM_tape iM_taped iM_size z_6171 z_6172 z_6173 z_6174 z_6175 z_6207 z_6208 iM_trouble rM_letters z_6206 iM_hasCourt rM_r rM_fresh rM_told rM_read rM_st rM_undone rM_kept iM_undos iM_images rM_fresher x_6165 iM_scale iM_night rM_heardRow rM_cutRow iM_breaths iM_cutMany iM_allBreaths rM_trial rM_words iM_fewestBreaths iM_orderMany iM_orderSum iM_leastOrder rM_often iM_setMany iM_someOf iM_allOf iM_allWeight iM_enoughWeight iM_worthSum iM_firstRest iM_leastDrawn), (arI rM_tape kM_tape 900 fM_tape), (arI rM_letters kM_letters 8 f_6179)]) rfl
                    have hFc := va_freeM hD hS hA _ hMs
                    refine va_callv (va_runV (As := []) (rest := []) ⟨hx, hb, hml, hown, hts⟩ (tX7_pass l dC dI _ oM iM_thrown rM_tape fM_tape kM_tape iM_taped iM_size z_6171 z_6172 z_6173 z_6174 z_6175 z_6207 z_6208 iM_trouble rM_letters f_6179 kM_letters z_6206 iM_hasCourt rM_r rM_fresh rM_told rM_read rM_st rM_undone rM_kept iM_undos iM_images rM_fresher x_6165 iM_scale iM_night rM_heardRow rM_cutRow iM_breaths iM_cutMany iM_allBreaths rM_trial rM_words iM_fewestBreaths iM_orderMany iM_orderSum iM_leastOrder rM_often iM_setMany iM_someOf iM_allOf iM_allWeight iM_enoughWeight iM_worthSum iM_firstRest iM_leastDrawn b_iM_taped b_iM_size b_z_6172 b_z_6175 b_z_6206 b_iM_hasCourt b_iM_undos b_iM_images b_iM_scale b_iM_breaths b_iM_cutMany hi6_n_6182) (cwV 0 hts (wd_V wd_454 wd_455 wd_456 wd_5 (wd_c wd_457)) rfl rfl rfl dv_yX7_pass_0 ⟨Nat.le_of_ble_eq_true rfl, Nat.le_of_ble_eq_true rfl⟩) ⟨Pw.fb, recvX7 hK hP (q0 := 0) rfl, fun U hU hW => Pw.to (hP.ms _ hMs) (hD.ms _ hMs) (hK.ms [true, true, false, false, false] rfl) hE hS hFc hU hW⟩ rfl rfl hl.1 rfl (lv_room (Nat.le_of_ble_eq_true rfl)) dX7_innerLine_111 ⟨Nat.le_of_ble_eq_true rfl, Nat.le_of_ble_eq_true rfl⟩) hS (fun q _ h => hFc q h) hFc (fun u t H locs ht hvm hw hB hz1 hk1 hS => ?_)
                    refine ex_6_6 hB (fun x_6212 x_6213 x_6214 x_6215 x_6216 f_6217 b_x_6213 b_x_6216 e_x_6212_0 e_x_6212_1 e_x_6212_2 e_x_6212_3 hB => ?_)
                    obtain ⟨hP, hD⟩ := Bw.goN (ws' := [(oc7 oM iM_thrown rM_tape iM_taped iM_size x_6212 x_6213 x_6214 x_6215 x_6216 z_6207 z_6208 iM_trouble rM_letters z_6206 iM_hasCourt rM_r rM_fresh rM_told rM_read rM_st rM_undone rM_kept iM_undos iM_images rM_fresher x_6165 iM_scale iM_night rM_heardRow rM_cutRow iM_breaths iM_cutMany iM_allBreaths rM_trial rM_words iM_fewestBreaths iM_orderMany iM_orderSum iM_leastOrder rM_often iM_setMany iM_someOf iM_allOf iM_allWeight iM_enoughWeight iM_worthSum iM_firstRest iM_leastDrawn), (arI rM_tape kM_tape 900 fM_tape), (arI rM_letters kM_letters 8 f_6217), (arI rM_fresh kM_fresh 287 f_6180), (arI rM_read kM_read 90 f_6181), (arI rM_fresher kM_fresher 8 f_6167)]) hB rfl ht hP hD _ hMs hk1 hFc rfl
                    clear hz1 hk1 hvm ht hB hMs
                    have hG := hG.trans (un6_eq e_x_6212_3)
                    clear hi6_n_6182
                    clear hi8_n_6182
                    refine lv_iload_n hx hb dX7_innerLine_114 rfl (lv_at hl 6 rfl) ?_
                    refine lv_iconst (v := 3) hx hb dX7_innerLine_115 (by decide) ?_
                    refine lv_icmp_ne (tgt := 129) hx hb dX7_innerLine_116 (by decide) (fun c_6218 => ?_) (fun c_6218 => ?_)
                    · skip
                      have hG := hG.trans (if_neg c_6218)
                      have gc_6218 := ti_ne c_6218 rfl kc_3
                      replace gc_6218 : p0.toInt + (-2) ≤ 0 := om_b7ea5ffe gc_6218 hp0.2
                      clear hic
                      refine lv_iconst (v := 0) hx hb dX7_innerLine_129 (by decide) ?_
                      refine lv_istore (lv' := [(6, .int 0), (5, .int x_6204), (4, .int z_6170), (3, .int z_6169), (2, .int x_6168), (0, .ref oM), (1, .int p0)]) hx hb dX7_innerLine_130 hl (by decide) rfl (fun ls hl => ?_)
                      refine lv_aload_n hx hb dX7_innerLine_132 rfl (lv_at hl 5 rfl) ?_
                      refine va_get (D := (dC, dI)) (ci := 7) (v := .int z_6206) (C := RX7) (T := TX7) (N := 48) hx hb hts inX7 hown hK hP 0 rfl rfl 13 (by decide) (hts _ wd_380) (fun _ h9 => h9) rfl dX7_innerLine_133 ?_
                      refine lv_if_eq (tgt := 140) hx hb dX7_innerLine_136 (by decide) (fun c_6219 => ?_) (fun c_6219 => ?_)
                      · skip
                        have hG := hG.trans (if_pos c_6219)
                        have gc_6219 := ti_eq c_6219 rfl kc_0
                        exact ((om_77e4ddb5 gc_6211 gc_6219)).elim
                      · skip
                        have hG := hG.trans (if_neg c_6219)
                        have gc_6219 := ti_ne c_6219 rfl kc_0
                        replace gc_6219 : (-1) * z_6206.toInt + 1 ≤ 0 := om_e3003f79 gc_6219 b_z_6206.1
                        exact wq_v hx hb hr 0 trivial (fun t ht hW => ⟨x_6212, x_6213, x_6214, x_6215, x_6216, z_6207, z_6208, z_6206, x_6165, f_6217, f_6180, f_6181, f_6167, b_x_6213, b_x_6216, b_z_6206, (om_9348f5ae hi7_n_6182 e_x_6212_0), e_x_6212_1, (om_1fc3dec6 gc_6155 b_z_6206.1), (fun h9 => False.elim (om_a5fe015d gc_6211 h9.1)), hi2_n_6182, hG, Bw.to hP hD hK ht hW⟩) hS dX7_innerLine_139 hlocks
                    · skip
                      have hG := hG.trans (if_pos c_6218)
                      have gc_6218 := ti_eq c_6218 rfl kc_3
                      have h_6220 : (fM_fresh 8).toInt ≤ 1 := hic ⟨(om_02e9bb08 gc_6155), (om_ce492ef9 hp0.2 gc_6218)⟩
                      clear hic
                      refine lv_aload_n hx hb dX7_innerLine_119 rfl (lv_at hl 5 rfl) ?_
                      refine lv_iconst (v := 1) hx hb dX7_innerLine_120 (by decide) ?_
                      refine lv_bipush (v := 9) hx hb dX7_innerLine_121 (by decide) ?_
                      have hMs := ml_of hD [true, true, true, false, false, false] (wc := [(oc7 oM iM_thrown rM_tape iM_taped iM_size x_6212 x_6213 x_6214 x_6215 x_6216 z_6207 z_6208 iM_trouble rM_letters z_6206 iM_hasCourt rM_r rM_fresh rM_told rM_read rM_st rM_undone rM_kept iM_undos iM_images rM_fresher x_6165 iM_scale iM_night rM_heardRow rM_cutRow iM_breaths iM_cutMany iM_allBreaths rM_trial rM_words iM_fewestBreaths iM_orderMany iM_orderSum iM_leastOrder rM_often iM_setMany iM_someOf iM_allOf iM_allWeight iM_enoughWeight iM_worthSum iM_firstRest iM_leastDrawn), (arI rM_tape kM_tape 900 fM_tape), (arI rM_letters kM_letters 8 f_6217)]) rfl
                      have hFc := va_freeM hD hS hA _ hMs
                      refine va_calli (va_runV (As := [.int 1, .int 9]) (rest := []) ⟨hx, hb, hml, hown, hts⟩ (tX7_number l dC dI _ oM iM_thrown rM_tape fM_tape kM_tape iM_taped iM_size x_6212 x_6213 x_6214 x_6215 x_6216 z_6207 z_6208 iM_trouble rM_letters f_6217 kM_letters z_6206 iM_hasCourt rM_r rM_fresh rM_told rM_read rM_st rM_undone rM_kept iM_undos iM_images rM_fresher x_6165 iM_scale iM_night rM_heardRow rM_cutRow iM_breaths iM_cutMany iM_allBreaths rM_trial rM_words iM_fewestBreaths iM_orderMany iM_orderSum iM_leastOrder rM_often iM_setMany iM_someOf iM_allOf iM_allWeight iM_enoughWeight iM_worthSum iM_firstRest iM_leastDrawn 1 9 b_iM_taped b_iM_size b_x_6213 b_x_6216 b_z_6206 b_iM_hasCourt b_iM_undos b_iM_images b_iM_scale b_iM_breaths b_iM_cutMany e_x_6212_1 (om_dc317686 kc_1 kc_9)) (cwV 2 hts (wd_V wd_446 wd_447 wd_448 wd_5 (wd_c wd_449)) rfl rfl rfl dv_yX7_number_2 ⟨Nat.le_of_ble_eq_true rfl, Nat.le_of_ble_eq_true rfl⟩) ⟨Pw.fb, recvX7 hK hP (q0 := 0) rfl, fun U hU hW => Pw.to (hP.ms _ hMs) (hD.ms _ hMs) (hK.ms [true, true, false, false, false] rfl) hE hS hFc hU hW⟩ rfl rfl hl.1 rfl (lv_room (Nat.le_of_ble_eq_true rfl)) dX7_innerLine_123 ⟨Nat.le_of_ble_eq_true rfl, Nat.le_of_ble_eq_true rfl⟩) hS (fun q _ h => hFc q h) hFc (fun r u t H locs ht hvm hw hB hz1 hk1 hS => ?_)
                      have hru9 := hw.2
                      have hw := hw.1
                      refine ex_9_8 hB (fun x_6221 x_6222 x_6223 x_6224 x_6225 x_6226 x_6227 x_6228 f_6229 b_x_6222 b_x_6225 b_x_6228 e_x_6221_0 e_x_6221_1 e_x_6221_2 e_x_6221_3 e_x_6221_4 hB => ?_)
                      obtain ⟨hP, hD⟩ := Bw.goN (ws' := [(oc7 oM iM_thrown rM_tape iM_taped iM_size x_6221 x_6222 x_6223 x_6224 x_6225 x_6226 x_6227 iM_trouble rM_letters x_6228 iM_hasCourt rM_r rM_fresh rM_told rM_read rM_st rM_undone rM_kept iM_undos iM_images rM_fresher x_6165 iM_scale iM_night rM_heardRow rM_cutRow iM_breaths iM_cutMany iM_allBreaths rM_trial rM_words iM_fewestBreaths iM_orderMany iM_orderSum iM_leastOrder rM_often iM_setMany iM_someOf iM_allOf iM_allWeight iM_enoughWeight iM_worthSum iM_firstRest iM_leastDrawn), (arI rM_tape kM_tape 900 fM_tape), (arI rM_letters kM_letters 8 f_6229), (arI rM_fresh kM_fresh 287 f_6180), (arI rM_read kM_read 90 f_6181), (arI rM_fresher kM_fresher 8 f_6167)]) hB rfl ht hP hD _ hMs hk1 hFc rfl
                      clear hz1 hk1 hvm ht hB hMs
                      rw [← hru9] at e_x_6221_4
                      obtain ⟨x_6230, rfl⟩ : ∃ z, z = r := ⟨_, rfl⟩
                      have hG := hG.trans (un10_eq e_x_6221_4)
                      have lx_6230 := hw.2
                      have kl_1 := kc_1
                      have kl_9 := kc_9
                      clear e_x_6212_1
                      clear e_x_6212_2
                      refine lv_goto (tgt := 130) hx hb dX7_innerLine_126 (by decide) ?_
                      refine lv_istore (lv' := [(6, .int x_6230), (5, .int x_6204), (4, .int z_6170), (3, .int z_6169), (2, .int x_6168), (0, .ref oM), (1, .int p0)]) hx hb dX7_innerLine_130 hl (by decide) rfl (fun ls hl => ?_)
                      refine lv_aload_n hx hb dX7_innerLine_132 rfl (lv_at hl 5 rfl) ?_
                      refine va_get (D := (dC, dI)) (ci := 7) (v := .int x_6228) (C := RX7) (T := TX7) (N := 48) hx hb hts inX7 hown hK hP 0 rfl rfl 13 (by decide) (hts _ wd_380) (fun _ h9 => h9) rfl dX7_innerLine_133 ?_
                      refine lv_if_eq (tgt := 140) hx hb dX7_innerLine_136 (by decide) (fun c_6231 => ?_) (fun c_6231 => ?_)
                      · skip
                        have hG := hG.trans (if_pos c_6231)
                        have gc_6231 := ti_eq c_6231 rfl kc_0
                        exact ((om_30d40e72 gc_6211 e_x_6221_2 gc_6231)).elim
                      · skip
                        have hG := hG.trans (if_neg c_6231)
                        have gc_6231 := ti_ne c_6231 rfl kc_0
                        replace gc_6231 : (-1) * x_6228.toInt + 1 ≤ 0 := om_e3003f79 gc_6231 b_x_6228.1
                        exact wq_v hx hb hr 0 trivial (fun t ht hW => ⟨x_6221, x_6222, x_6223, x_6224, x_6225, x_6226, x_6227, x_6228, x_6165, f_6229, f_6180, f_6181, f_6167, b_x_6222, b_x_6225, b_x_6228, (om_622f2a87 hi7_n_6182 e_x_6212_0 e_x_6221_0), e_x_6221_1, (om_1fc3dec6 gc_6155 b_x_6228.1), (fun h9 => False.elim (om_a5fe015d gc_6231 h9.1)), hi2_n_6182, hG, Bw.to hP hD hK ht hW⟩) hS dX7_innerLine_139 hlocks
                  · skip
                    have hG := hG.trans (if_pos c_6211)
                    have gc_6211 := ti_eq c_6211 rfl kc_0
                    have h_6232 : 1 ≤ (f_6180 1).toInt := e_x_6201_1 (om_6c480895 hi1_n_6209 gc_6211)
                    clear e_x_6201_1
                    have h_6233 : x_6204.toInt < (f_6180 1).toInt := lx_6204.2.1 h_6232
                    refine lv_iload_n hx hb dX7_innerLine_96 rfl (lv_at hl 3 rfl) ?_
                    refine lv_iconst (v := 4) hx hb dX7_innerLine_97 (by decide) ?_
                    refine lv_icmp_ne (tgt := 110) hx hb dX7_innerLine_98 (by decide) (fun c_6234 => ?_) (fun c_6234 => ?_)
                    · skip
                      have hG := hG.trans (if_neg c_6234)
                      have gc_6234 := ti_ne c_6234 rfl kc_4
                      replace gc_6234 : z_6169.toInt + (-3) ≤ 0 := om_96839482 gc_6234 hi0_n_6182.2
                      refine lv_aload_n hx hb dX7_innerLine_110 rfl (lv_at hl 5 rfl) ?_
                      have hMs := ml_of hD [true, true, true, false, false, false] (wc := [(oc7 oM iM_thrown rM_tape iM_taped iM_size z_6171 z_6172 z_6173 z_6174 z_6175 z_6207 z_6208 iM_trouble rM_letters z_6206 iM_hasCourt rM_r rM_fresh rM_told rM_read rM_st rM_undone rM_kept iM_undos iM_images rM_fresher x_6165 iM_scale iM_night rM_heardRow rM_cutRow iM_breaths iM_cutMany iM_allBreaths rM_trial rM_words iM_fewestBreaths iM_orderMany iM_orderSum iM_leastOrder rM_often iM_setMany iM_someOf iM_allOf iM_allWeight iM_enoughWeight iM_worthSum iM_firstRest iM_leastDrawn), (arI rM_tape kM_tape 900 fM_tape), (arI rM_letters kM_letters 8 f_6179)]) rfl
                      have hFc := va_freeM hD hS hA _ hMs
                      refine va_callv (va_runV (As := []) (rest := []) ⟨hx, hb, hml, hown, hts⟩ (tX7_pass l dC dI _ oM iM_thrown rM_tape fM_tape kM_tape iM_taped iM_size z_6171 z_6172 z_6173 z_6174 z_6175 z_6207 z_6208 iM_trouble rM_letters f_6179 kM_letters z_6206 iM_hasCourt rM_r rM_fresh rM_told rM_read rM_st rM_undone rM_kept iM_undos iM_images rM_fresher x_6165 iM_scale iM_night rM_heardRow rM_cutRow iM_breaths iM_cutMany iM_allBreaths rM_trial rM_words iM_fewestBreaths iM_orderMany iM_orderSum iM_leastOrder rM_often iM_setMany iM_someOf iM_allOf iM_allWeight iM_enoughWeight iM_worthSum iM_firstRest iM_leastDrawn b_iM_taped b_iM_size b_z_6172 b_z_6175 b_z_6206 b_iM_hasCourt b_iM_undos b_iM_images b_iM_scale b_iM_breaths b_iM_cutMany hi6_n_6182) (cwV 0 hts (wd_V wd_454 wd_455 wd_456 wd_5 (wd_c wd_457)) rfl rfl rfl dv_yX7_pass_0 ⟨Nat.le_of_ble_eq_true rfl, Nat.le_of_ble_eq_true rfl⟩) ⟨Pw.fb, recvX7 hK hP (q0 := 0) rfl, fun U hU hW => Pw.to (hP.ms _ hMs) (hD.ms _ hMs) (hK.ms [true, true, false, false, false] rfl) hE hS hFc hU hW⟩ rfl rfl hl.1 rfl (lv_room (Nat.le_of_ble_eq_true rfl)) dX7_innerLine_111 ⟨Nat.le_of_ble_eq_true rfl, Nat.le_of_ble_eq_true rfl⟩) hS (fun q _ h => hFc q h) hFc (fun u t H locs ht hvm hw hB hz1 hk1 hS => ?_)
                      refine ex_6_6 hB (fun x_6235 x_6236 x_6237 x_6238 x_6239 f_6240 b_x_6236 b_x_6239 e_x_6235_0 e_x_6235_1 e_x_6235_2 e_x_6235_3 hB => ?_)
                      obtain ⟨hP, hD⟩ := Bw.goN (ws' := [(oc7 oM iM_thrown rM_tape iM_taped iM_size x_6235 x_6236 x_6237 x_6238 x_6239 z_6207 z_6208 iM_trouble rM_letters z_6206 iM_hasCourt rM_r rM_fresh rM_told rM_read rM_st rM_undone rM_kept iM_undos iM_images rM_fresher x_6165 iM_scale iM_night rM_heardRow rM_cutRow iM_breaths iM_cutMany iM_allBreaths rM_trial rM_words iM_fewestBreaths iM_orderMany iM_orderSum iM_leastOrder rM_often iM_setMany iM_someOf iM_allOf iM_allWeight iM_enoughWeight iM_worthSum iM_firstRest iM_leastDrawn), (arI rM_tape kM_tape 900 fM_tape), (arI rM_letters kM_letters 8 f_6240), (arI rM_fresh kM_fresh 287 f_6180), (arI rM_read kM_read 90 f_6181), (arI rM_fresher kM_fresher 8 f_6167)]) hB rfl ht hP hD _ hMs hk1 hFc rfl
                      clear hz1 hk1 hvm ht hB hMs
                      have hG := hG.trans (un6_eq e_x_6235_3)
                      clear hi6_n_6182
                      clear hi8_n_6182
                      refine lv_iload_n hx hb dX7_innerLine_114 rfl (lv_at hl 6 rfl) ?_
                      refine lv_iconst (v := 3) hx hb dX7_innerLine_115 (by decide) ?_
                      refine lv_icmp_ne (tgt := 129) hx hb dX7_innerLine_116 (by decide) (fun c_6241 => ?_) (fun c_6241 => ?_)
                      · skip
                        have hG := hG.trans (if_neg c_6241)
                        have gc_6241 := ti_ne c_6241 rfl kc_3
                        replace gc_6241 : p0.toInt + (-2) ≤ 0 := om_b7ea5ffe gc_6241 hp0.2
                        clear hic
                        refine lv_iconst (v := 0) hx hb dX7_innerLine_129 (by decide) ?_
                        refine lv_istore (lv' := [(6, .int 0), (5, .int x_6204), (4, .int z_6170), (3, .int z_6169), (2, .int x_6168), (0, .ref oM), (1, .int p0)]) hx hb dX7_innerLine_130 hl (by decide) rfl (fun ls hl => ?_)
                        refine lv_aload_n hx hb dX7_innerLine_132 rfl (lv_at hl 5 rfl) ?_
                        refine va_get (D := (dC, dI)) (ci := 7) (v := .int z_6206) (C := RX7) (T := TX7) (N := 48) hx hb hts inX7 hown hK hP 0 rfl rfl 13 (by decide) (hts _ wd_380) (fun _ h9 => h9) rfl dX7_innerLine_133 ?_
                        refine lv_if_eq (tgt := 140) hx hb dX7_innerLine_136 (by decide) (fun c_6242 => ?_) (fun c_6242 => ?_)
                        · skip
                          have hG := hG.trans (if_pos c_6242)
                          have gc_6242 := ti_eq c_6242 rfl kc_0
                          refine lv_aload_n hx hb dX7_innerLine_140 rfl (lv_at hl 5 rfl) ?_
                          refine va_get (D := (dC, dI)) (ci := 7) (v := .ref rM_read) (C := RX7) (T := TX7) (N := 48) hx hb hts inX7 hown hK hP 0 rfl rfl 18 (by decide) (hts _ wd_158) (fun _ h9 => h9) rfl dX7_innerLine_141 ?_
                          refine lv_iconst (v := 4) hx hb dX7_innerLine_144 (by decide) ?_
                          refine lv_iload_n hx hb dX7_innerLine_145 rfl (lv_at hl 4 rfl) ?_
                          refine lv_imul hx hb dX7_innerLine_146 ?_
                          refine lv_topi (fun x_6243 ex_6243 => ?_)
                          have hG := hG.trans (lt_eq ex_6243)
                          have vx_6243 : x_6243.toInt = 4 * x_6168.toInt := ti_mul ex_6243 kc_4 rfl (om_9e6bb6a4 pl_fM_fresh.2.2.2.2.1.1 pl_fM_fresh.2.2.2.2.1.2 cx_6168) (om_7d3cae7d pl_fM_fresh.2.1 pl_fM_fresh.2.2.1.2 pl_fM_fresh.2.2.2.2.2.1.2 cx_6168)
                          refine lv_iload_n hx hb dX7_innerLine_147 rfl (lv_at hl 3 rfl) ?_
                          refine lv_iadd hx hb dX7_innerLine_148 ?_
                          refine lv_topi (fun x_6244 ex_6244 => ?_)
                          have hG := hG.trans (lt_eq ex_6244)
                          have vx_6244 : x_6244.toInt = 4 * x_6168.toInt + z_6169.toInt := om_5d0caf0f (ti_add ex_6244 vx_6243 rfl (om_80a5d224 pl_fM_fresh.2.2.2.2.1.1 pl_fM_fresh.2.2.2.2.1.2 cx_6168 hi0_n_6182.1) (om_65488096 pl_fM_fresh.2.1 pl_fM_fresh.2.2.1.2 pl_fM_fresh.2.2.2.2.2.1.2 cx_6168 hi0_n_6182.2))
                          refine lv_iload hx hb dX7_innerLine_149 (lv_at hl 1 rfl) ?_
                          refine va_iast hx hb hK hP hD hS 4 3 rfl rfl (ti_in vx_6244 (om_dcc527d7 pl_fM_fresh.2.2.2.2.1.1 pl_fM_fresh.2.2.2.2.1.2 cx_6168 hi0_n_6182.1) (om_1343fdf1 pl_fM_fresh.2.1 pl_fM_fresh.2.2.1.2 pl_fM_fresh.2.2.2.2.2.1.2 cx_6168 hi0_n_6182.2)) dX7_innerLine_151 (fun H locs hP hD hS => ?_)
                          obtain ⟨f_6245, ef_6245⟩ : ∃ g : Nat → Int32, g = upd f_6181 x_6244.toNatClampNeg x_6204 := ⟨_, rfl⟩
                          rw [← ef_6245] at hP hD
                          have hG := hG.trans (lt_eq ef_6245)
                          obtain ⟨hP, hD⟩ := wl2 (ws' := [(oc7 oM iM_thrown rM_tape iM_taped iM_size x_6235 x_6236 x_6237 x_6238 x_6239 z_6207 z_6208 iM_trouble rM_letters z_6206 iM_hasCourt rM_r rM_fresh rM_told rM_read rM_st rM_undone rM_kept iM_undos iM_images rM_fresher x_6165 iM_scale iM_night rM_heardRow rM_cutRow iM_breaths iM_cutMany iM_allBreaths rM_trial rM_words iM_fewestBreaths iM_orderMany iM_orderSum iM_leastOrder rM_often iM_setMany iM_someOf iM_allOf iM_allWeight iM_enoughWeight iM_worthSum iM_firstRest iM_leastDrawn), (arI rM_tape kM_tape 900 fM_tape), (arI rM_letters kM_letters 8 f_6240), (arI rM_fresh kM_fresh 287 f_6180), (arI rM_read kM_read 90 f_6245), (arI rM_fresher kM_fresher 8 f_6167)]) hP hD rfl
                          have q_n1 := ti_cl (x := f_6180 1) rfl (by omega)
                          have pk_f_6245 : POk f_6180 f_6245 := POk.prt hi2_n_6182 ef_6245 (by have q9 := ti_cl (x := x_6244) vx_6244 (om_dcc527d7 pl_fM_fresh.2.2.2.2.1.1 pl_fM_fresh.2.2.2.2.1.2 cx_6168 hi0_n_6182.1); omega) (by have q9 := ti_cl (x := x_6244) vx_6244 (om_dcc527d7 pl_fM_fresh.2.2.2.2.1.1 pl_fM_fresh.2.2.2.2.1.2 cx_6168 hi0_n_6182.1); omega)
                          refine lv_aload_n hx hb dX7_innerLine_152 rfl (lv_at hl 5 rfl) ?_
                          refine va_get (D := (dC, dI)) (ci := 7) (v := .ref rM_fresh) (C := RX7) (T := TX7) (N := 48) hx hb hts inX7 hown hK hP 0 rfl rfl 16 (by decide) (hts _ wd_156) (fun _ h9 => h9) rfl dX7_innerLine_153 ?_
                          refine lv_bipush (v := 45) hx hb dX7_innerLine_156 (by decide) ?_
                          refine lv_iconst (v := 4) hx hb dX7_innerLine_158 (by decide) ?_
                          refine lv_iload_n hx hb dX7_innerLine_159 rfl (lv_at hl 4 rfl) ?_
                          refine lv_imul hx hb dX7_innerLine_160 ?_
                          refine lv_topi (fun x_6246 ex_6246 => ?_)
                          have hG := hG.trans (lt_eq ex_6246)
                          have vx_6246 : x_6246.toInt = 4 * x_6168.toInt := ti_mul ex_6246 kc_4 rfl (om_9e6bb6a4 pl_fM_fresh.2.2.2.2.1.1 pl_fM_fresh.2.2.2.2.1.2 cx_6168) (om_7d3cae7d pl_fM_fresh.2.1 pl_fM_fresh.2.2.1.2 pl_fM_fresh.2.2.2.2.2.1.2 cx_6168)
                          refine lv_iadd hx hb dX7_innerLine_161 ?_
                          refine lv_topi (fun x_6247 ex_6247 => ?_)
                          have hG := hG.trans (lt_eq ex_6247)
                          have vx_6247 : x_6247.toInt = 4 * x_6168.toInt + 45 := om_702bf7ac (ti_add ex_6247 kc_45 vx_6246 (om_0c5ad906 pl_fM_fresh.2.2.2.2.1.1 pl_fM_fresh.2.2.2.2.1.2 cx_6168) (om_5da1924c pl_fM_fresh.2.1 pl_fM_fresh.2.2.1.2 pl_fM_fresh.2.2.2.2.2.1.2 cx_6168))
                          refine lv_iload_n hx hb dX7_innerLine_162 rfl (lv_at hl 3 rfl) ?_
                          refine lv_iadd hx hb dX7_innerLine_163 ?_
                          refine lv_topi (fun x_6248 ex_6248 => ?_)
                          have hG := hG.trans (lt_eq ex_6248)
                          have vx_6248 : x_6248.toInt = 4 * x_6168.toInt + z_6169.toInt + 45 := om_0ab12ad6 (ti_add ex_6248 vx_6247 rfl (om_563b8554 pl_fM_fresh.2.2.2.2.1.1 pl_fM_fresh.2.2.2.2.1.2 cx_6168 hi0_n_6182.1) (om_87f6ba8c pl_fM_fresh.2.1 pl_fM_fresh.2.2.1.2 pl_fM_fresh.2.2.2.2.2.1.2 cx_6168 hi0_n_6182.2))
                          refine lv_iload hx hb dX7_innerLine_164 (lv_at hl 0 rfl) ?_
                          refine va_iast hx hb hK hP hD hS 3 2 rfl rfl (ti_in vx_6248 (om_d2c9edc5 pl_fM_fresh.2.2.2.2.1.1 pl_fM_fresh.2.2.2.2.1.2 cx_6168 hi0_n_6182.1) (om_21e450b4 pl_fM_fresh.2.1 pl_fM_fresh.2.2.1.2 pl_fM_fresh.2.2.2.2.2.1.2 cx_6168 hi0_n_6182.2)) dX7_innerLine_166 (fun H locs hP hD hS => ?_)
                          obtain ⟨f_6249, ef_6249⟩ : ∃ g : Nat → Int32, g = upd f_6180 x_6248.toNatClampNeg (0 : Int32) := ⟨_, rfl⟩
                          rw [← ef_6249] at hP hD
                          have hG := hG.trans (lt_eq ef_6249)
                          obtain ⟨hP, hD⟩ := wl2 (ws' := [(oc7 oM iM_thrown rM_tape iM_taped iM_size x_6235 x_6236 x_6237 x_6238 x_6239 z_6207 z_6208 iM_trouble rM_letters z_6206 iM_hasCourt rM_r rM_fresh rM_told rM_read rM_st rM_undone rM_kept iM_undos iM_images rM_fresher x_6165 iM_scale iM_night rM_heardRow rM_cutRow iM_breaths iM_cutMany iM_allBreaths rM_trial rM_words iM_fewestBreaths iM_orderMany iM_orderSum iM_leastOrder rM_often iM_setMany iM_someOf iM_allOf iM_allWeight iM_enoughWeight iM_worthSum iM_firstRest iM_leastDrawn), (arI rM_tape kM_tape 900 fM_tape), (arI rM_letters kM_letters 8 f_6240), (arI rM_fresh kM_fresh 287 f_6249), (arI rM_read kM_read 90 f_6245), (arI rM_fresher kM_fresher 8 f_6167)]) hP hD rfl
                          have pk_f_6249 : POk f_6249 f_6245 := POk.put pk_f_6245 ef_6249 (Or.inr (Or.inr (Or.inr (Or.inr (Or.inr (Or.inl (by have q9 := ti_cl (x := x_6248) vx_6248 (om_d2c9edc5 pl_fM_fresh.2.2.2.2.1.1 pl_fM_fresh.2.2.2.2.1.2 cx_6168 hi0_n_6182.1); have q8 := kc_0; omega)))))))
                          have pl_f_6249 := pk_f_6249.lins
                          have nn9 : (f_6180 1).toNatClampNeg = x_6168.toNatClampNeg := by have q1 := ti_cl (x := x_6168) rfl (om_1ab2c227 pl_fM_fresh.2.2.2.2.1.1 pl_fM_fresh.2.2.2.2.1.2 cx_6168); have q2 := ti_cl (x := f_6180 1) rfl (by omega); have q3 := ti_cl (x := z_6169) rfl hi0_n_6182.1; omega
                          have in9 : InOk f_6249 f_6245 (f_6249 1).toNatClampNeg (z_6169.toNatClampNeg + 1) p0.toInt := in_step hi3_n_6182 rfl ef_6245 (by have q1 := ti_cl (x := x_6168) rfl (om_1ab2c227 pl_fM_fresh.2.2.2.2.1.1 pl_fM_fresh.2.2.2.2.1.2 cx_6168); have q2 := ti_cl (x := f_6180 1) rfl (by omega); have q3 := ti_cl (x := z_6169) rfl hi0_n_6182.1; have q9 := ti_cl (x := x_6244) vx_6244 (om_dcc527d7 pl_fM_fresh.2.2.2.2.1.1 pl_fM_fresh.2.2.2.2.1.2 cx_6168 hi0_n_6182.1); omega) ef_6249 (by have q1 := ti_cl (x := x_6168) rfl (om_1ab2c227 pl_fM_fresh.2.2.2.2.1.1 pl_fM_fresh.2.2.2.2.1.2 cx_6168); have q2 := ti_cl (x := f_6180 1) rfl (by omega); have q3 := ti_cl (x := z_6169) rfl hi0_n_6182.1; have q9 := ti_cl (x := x_6248) vx_6248 (om_d2c9edc5 pl_fM_fresh.2.2.2.2.1.1 pl_fM_fresh.2.2.2.2.1.2 cx_6168 hi0_n_6182.1); omega) (by omega) (by have q1 := ti_cl (x := x_6168) rfl (om_1ab2c227 pl_fM_fresh.2.2.2.2.1.1 pl_fM_fresh.2.2.2.2.1.2 cx_6168); have q2 := ti_cl (x := f_6180 1) rfl (by omega); have q3 := ti_cl (x := z_6169) rfl hi0_n_6182.1; omega) (fun i9 h9 => by rw [nn9]; exact hi2_n_6209 (by omega) i9 (by have q1 := ti_cl (x := x_6168) rfl (om_1ab2c227 pl_fM_fresh.2.2.2.2.1.1 pl_fM_fresh.2.2.2.2.1.2 cx_6168); have q2 := ti_cl (x := f_6180 1) rfl (by omega); have q3 := ti_cl (x := z_6169) rfl hi0_n_6182.1; have q4 := ti_cl (x := z_6205) rfl hi0_n_6209.1; omega)) (fun h9 => by have q0 := kc_0; omega) rfl
                          have o1_f_6249 : (f_6249 1).toInt = (f_6180 1).toInt := put_at ef_6249 (Nat.ne_of_lt (om_9b872883 (ti_cl (x := x_6248) vx_6248 (om_d2c9edc5 pl_fM_fresh.2.2.2.2.1.1 pl_fM_fresh.2.2.2.2.1.2 cx_6168 hi0_n_6182.1)) pl_fM_fresh.2.2.2.2.1.1 pl_fM_fresh.2.2.2.2.1.2 cx_6168 hi0_n_6182.1))
                          have o7_f_6249 : (f_6249 7).toInt = (f_6180 7).toInt := put_at ef_6249 (Nat.ne_of_lt (om_58da8a1c (ti_cl (x := x_6248) vx_6248 (om_d2c9edc5 pl_fM_fresh.2.2.2.2.1.1 pl_fM_fresh.2.2.2.2.1.2 cx_6168 hi0_n_6182.1)) pl_fM_fresh.2.2.2.2.1.1 pl_fM_fresh.2.2.2.2.1.2 cx_6168 hi0_n_6182.1))
                          have o8_f_6249 : (f_6249 8).toInt = (f_6180 8).toInt := put_at ef_6249 (Nat.ne_of_lt (om_f4400bad (ti_cl (x := x_6248) vx_6248 (om_d2c9edc5 pl_fM_fresh.2.2.2.2.1.1 pl_fM_fresh.2.2.2.2.1.2 cx_6168 hi0_n_6182.1)) pl_fM_fresh.2.2.2.2.1.1 pl_fM_fresh.2.2.2.2.1.2 cx_6168 hi0_n_6182.1))
                          obtain ⟨x_6250, ex_6250⟩ : ∃ z : Int32, z = z_6169 + Int32.ofInt 1 := ⟨_, rfl⟩
                          have hG := hG.trans (lt_eq ex_6250)
                          have vx_6250 : x_6250.toInt = z_6169.toInt + 1 := ti_add (y := 1) ex_6250 rfl kc_1 (om_4e4fce7e hi0_n_6182.1) (om_bae2951a hi0_n_6182.2)
                          refine lv_iinc (v := x_6250) (lv' := [(3, .int x_6250), (6, .int 0), (5, .int x_6204), (4, .int z_6170), (2, .int x_6168), (0, .ref oM), (1, .int p0)]) hx hb dX7_innerLine_167 hl (k := 3) rfl ex_6250.symm (by decide) rfl (fun ls hl => ?_)
                          refine lv_aload_n hx hb dX7_innerLine_170 rfl (lv_at hl 5 rfl) ?_
                          refine va_get (D := (dC, dI)) (ci := 7) (v := .int x_6237) (C := RX7) (T := TX7) (N := 48) hx hb hts inX7 hown hK hP 0 rfl rfl 6 (by decide) (hts _ wd_383) (fun _ h9 => h9) rfl dX7_innerLine_171 ?_
                          refine lv_bipush (v := 44) hx hb dX7_innerLine_174 (by decide) ?_
                          refine lv_icmp_ne (tgt := 183) hx hb dX7_innerLine_176 (by decide) (fun c_6251 => ?_) (fun c_6251 => ?_)
                          · skip
                            have hG := hG.trans (if_neg c_6251)
                            have gc_6251 := ti_ne c_6251 rfl kc_44
                            clear gc_6251
                            refine lv_iconst (v := 0) hx hb dX7_innerLine_183 (by decide) ?_
                            refine lv_istore (lv' := [(4, .int 0), (3, .int x_6250), (6, .int 0), (5, .int x_6204), (2, .int x_6168), (0, .ref oM), (1, .int p0)]) hx hb dX7_innerLine_184 hl (by decide) rfl (fun ls hl => ?_)
                            refine lv_iload hx hb dX7_innerLine_186 (lv_at hl 0 rfl) ?_
                            refine lv_if_eq (tgt := 195) hx hb dX7_innerLine_188 (by decide) (fun _ => ?_) (fun c => absurd c (by decide))
                            refine lv_goto (tgt := 24) hx hb dX7_innerLine_195 (by decide) ?_
                            exact ih_n_6182 x_6250 0 x_6235 x_6236 x_6237 x_6238 x_6239 z_6207 z_6208 z_6206 f_6240 f_6249 f_6245 _ _ _ b_x_6236 b_x_6239 b_z_6206 ⟨(om_83b90de5 hi0_n_6182.1 vx_6250), (om_2c69d3de gc_6234 vx_6250)⟩ ⟨(om_b1de7dbe kc_0), (om_270f4ea0 kc_0)⟩ (by assumption) (by rw [show x_6250.toNatClampNeg = z_6169.toNatClampNeg + 1 from (by have q1 := ti_cl (x := x_6250) vx_6250 (om_9548a8fd hi0_n_6182.1); have q2 := ti_cl (x := z_6169) rfl hi0_n_6182.1; omega)]; exact in9) ⟨(om_216d7917 hi4_n_6182.1 o1_f_6249), (om_216d7917 hi4_n_6182.2.1 o7_f_6249), (om_216d7917 hi4_n_6182.2.2 o8_f_6249)⟩ (fun h9 => (om_285f573d hi0_n_6182.1 vx_6250)) e_x_6235_1 (om_9348f5ae hi7_n_6182 e_x_6235_0) (fun h9 => (om_7ed234da hi7_n_6182 (e_x_6235_2 ⟨(om_02e9bb08 gc_6211), h9.2⟩))) (ms_lt hm_n_6182 (om_ed22490e vx_6250) (om_36ac28fa gc_6234)) hG hP hD hS (lv_sub hl [0, 1, 4, 5, 6] rfl)
                          · skip
                            have hG := hG.trans (if_pos c_6251)
                            have gc_6251 := ti_eq c_6251 rfl kc_44
                            refine lv_iconst (v := 1) hx hb dX7_innerLine_179 (by decide) ?_
                            refine lv_goto (tgt := 184) hx hb dX7_innerLine_180 (by decide) ?_
                            refine lv_istore (lv' := [(4, .int 1), (3, .int x_6250), (6, .int 0), (5, .int x_6204), (2, .int x_6168), (0, .ref oM), (1, .int p0)]) hx hb dX7_innerLine_184 hl (by decide) rfl (fun ls hl => ?_)
                            refine lv_iload hx hb dX7_innerLine_186 (lv_at hl 0 rfl) ?_
                            refine lv_if_eq (tgt := 195) hx hb dX7_innerLine_188 (by decide) (fun c => absurd c (by decide)) (fun _ => ?_)
                            refine lv_aload_n hx hb dX7_innerLine_191 rfl (lv_at hl 5 rfl) ?_
                            have hMs := ml_of hD [true, true, true, false, false, false] (wc := [(oc7 oM iM_thrown rM_tape iM_taped iM_size x_6235 x_6236 x_6237 x_6238 x_6239 z_6207 z_6208 iM_trouble rM_letters z_6206 iM_hasCourt rM_r rM_fresh rM_told rM_read rM_st rM_undone rM_kept iM_undos iM_images rM_fresher x_6165 iM_scale iM_night rM_heardRow rM_cutRow iM_breaths iM_cutMany iM_allBreaths rM_trial rM_words iM_fewestBreaths iM_orderMany iM_orderSum iM_leastOrder rM_often iM_setMany iM_someOf iM_allOf iM_allWeight iM_enoughWeight iM_worthSum iM_firstRest iM_leastDrawn), (arI rM_tape kM_tape 900 fM_tape), (arI rM_letters kM_letters 8 f_6240)]) rfl
                            have hFc := va_freeM hD hS hA _ hMs
                            refine va_callv (va_runV (As := []) (rest := []) ⟨hx, hb, hml, hown, hts⟩ (tX7_next l dC dI _ oM iM_thrown rM_tape fM_tape kM_tape iM_taped iM_size x_6235 x_6236 x_6237 x_6238 x_6239 z_6207 z_6208 iM_trouble rM_letters f_6240 kM_letters z_6206 iM_hasCourt rM_r rM_fresh rM_told rM_read rM_st rM_undone rM_kept iM_undos iM_images rM_fresher x_6165 iM_scale iM_night rM_heardRow rM_cutRow iM_breaths iM_cutMany iM_allBreaths rM_trial rM_words iM_fewestBreaths iM_orderMany iM_orderSum iM_leastOrder rM_often iM_setMany iM_someOf iM_allOf iM_allWeight iM_enoughWeight iM_worthSum iM_firstRest iM_leastDrawn b_iM_taped b_iM_size b_x_6236 b_x_6239 b_z_6206 b_iM_hasCourt b_iM_undos b_iM_images b_iM_scale b_iM_breaths b_iM_cutMany e_x_6235_1) (cwV 0 hts (wd_V wd_400 wd_401 wd_402 wd_5 (wd_c wd_403)) rfl rfl rfl dv_yX7_next_0 ⟨Nat.le_of_ble_eq_true rfl, Nat.le_of_ble_eq_true rfl⟩) ⟨Pw.fb, recvX7 hK hP (q0 := 0) rfl, fun U hU hW => Pw.to (hP.ms _ hMs) (hD.ms _ hMs) (hK.ms [true, true, false, false, false] rfl) hE hS hFc hU hW⟩ rfl rfl hl.1 rfl (lv_room (Nat.le_of_ble_eq_true rfl)) dX7_innerLine_192 ⟨Nat.le_of_ble_eq_true rfl, Nat.le_of_ble_eq_true rfl⟩) hS (fun q _ h => hFc q h) hFc (fun u t H locs ht hvm hw hB hz1 hk1 hS => ?_)
                            refine ex_6_6 hB (fun x_6254 x_6255 x_6256 x_6257 x_6258 f_6259 b_x_6255 b_x_6258 e_x_6254_0 e_x_6254_1 e_x_6254_2 e_x_6254_3 hB => ?_)
                            obtain ⟨hP, hD⟩ := Bw.goN (ws' := [(oc7 oM iM_thrown rM_tape iM_taped iM_size x_6254 x_6255 x_6256 x_6257 x_6258 z_6207 z_6208 iM_trouble rM_letters z_6206 iM_hasCourt rM_r rM_fresh rM_told rM_read rM_st rM_undone rM_kept iM_undos iM_images rM_fresher x_6165 iM_scale iM_night rM_heardRow rM_cutRow iM_breaths iM_cutMany iM_allBreaths rM_trial rM_words iM_fewestBreaths iM_orderMany iM_orderSum iM_leastOrder rM_often iM_setMany iM_someOf iM_allOf iM_allWeight iM_enoughWeight iM_worthSum iM_firstRest iM_leastDrawn), (arI rM_tape kM_tape 900 fM_tape), (arI rM_letters kM_letters 8 f_6259), (arI rM_fresh kM_fresh 287 f_6249), (arI rM_read kM_read 90 f_6245), (arI rM_fresher kM_fresher 8 f_6167)]) hB rfl ht hP hD _ hMs hk1 hFc rfl
                            clear hz1 hk1 hvm ht hB hMs
                            have hG := hG.trans (un6_eq e_x_6254_3)
                            clear e_x_6235_1
                            clear e_x_6235_2
                            refine lv_goto (tgt := 24) hx hb dX7_innerLine_195 (by decide) ?_
                            exact ih_n_6182 x_6250 1 x_6254 x_6255 x_6256 x_6257 x_6258 z_6207 z_6208 z_6206 f_6259 f_6249 f_6245 _ _ _ b_x_6255 b_x_6258 b_z_6206 ⟨(om_83b90de5 hi0_n_6182.1 vx_6250), (om_2c69d3de gc_6234 vx_6250)⟩ ⟨(om_1b364b1c kc_1), (om_02032f93 kc_1)⟩ (by assumption) (by rw [show x_6250.toNatClampNeg = z_6169.toNatClampNeg + 1 from (by have q1 := ti_cl (x := x_6250) vx_6250 (om_9548a8fd hi0_n_6182.1); have q2 := ti_cl (x := z_6169) rfl hi0_n_6182.1; omega)]; exact in9) ⟨(om_216d7917 hi4_n_6182.1 o1_f_6249), (om_216d7917 hi4_n_6182.2.1 o7_f_6249), (om_216d7917 hi4_n_6182.2.2 o8_f_6249)⟩ (fun h9 => (om_285f573d hi0_n_6182.1 vx_6250)) e_x_6254_1 (om_622f2a87 hi7_n_6182 e_x_6235_0 e_x_6254_0) (fun h9 => (om_2d38588c hi7_n_6182 e_x_6235_0 (e_x_6254_2 h9.2))) (ms_lt hm_n_6182 (om_ed22490e vx_6250) (om_36ac28fa gc_6234)) hG hP hD hS (lv_sub hl [0, 1, 4, 5, 6] rfl)
                        · skip
                          have hG := hG.trans (if_neg c_6242)
                          have gc_6242 := ti_ne c_6242 rfl kc_0
                          replace gc_6242 : z_6206.toInt + 1 ≤ 0 := om_f992525b gc_6242 gc_6211
                          exact ((om_5185113d b_z_6206.1 gc_6242)).elim
                      · skip
                        have hG := hG.trans (if_pos c_6241)
                        have gc_6241 := ti_eq c_6241 rfl kc_3
                        have h_6260 : (fM_fresh 8).toInt ≤ 1 := hic ⟨(om_02e9bb08 gc_6155), (om_ce492ef9 hp0.2 gc_6241)⟩
                        clear hic
                        refine lv_aload_n hx hb dX7_innerLine_119 rfl (lv_at hl 5 rfl) ?_
                        refine lv_iconst (v := 1) hx hb dX7_innerLine_120 (by decide) ?_
                        refine lv_bipush (v := 9) hx hb dX7_innerLine_121 (by decide) ?_
                        have hMs := ml_of hD [true, true, true, false, false, false] (wc := [(oc7 oM iM_thrown rM_tape iM_taped iM_size x_6235 x_6236 x_6237 x_6238 x_6239 z_6207 z_6208 iM_trouble rM_letters z_6206 iM_hasCourt rM_r rM_fresh rM_told rM_read rM_st rM_undone rM_kept iM_undos iM_images rM_fresher x_6165 iM_scale iM_night rM_heardRow rM_cutRow iM_breaths iM_cutMany iM_allBreaths rM_trial rM_words iM_fewestBreaths iM_orderMany iM_orderSum iM_leastOrder rM_often iM_setMany iM_someOf iM_allOf iM_allWeight iM_enoughWeight iM_worthSum iM_firstRest iM_leastDrawn), (arI rM_tape kM_tape 900 fM_tape), (arI rM_letters kM_letters 8 f_6240)]) rfl
                        have hFc := va_freeM hD hS hA _ hMs
                        refine va_calli (va_runV (As := [.int 1, .int 9]) (rest := []) ⟨hx, hb, hml, hown, hts⟩ (tX7_number l dC dI _ oM iM_thrown rM_tape fM_tape kM_tape iM_taped iM_size x_6235 x_6236 x_6237 x_6238 x_6239 z_6207 z_6208 iM_trouble rM_letters f_6240 kM_letters z_6206 iM_hasCourt rM_r rM_fresh rM_told rM_read rM_st rM_undone rM_kept iM_undos iM_images rM_fresher x_6165 iM_scale iM_night rM_heardRow rM_cutRow iM_breaths iM_cutMany iM_allBreaths rM_trial rM_words iM_fewestBreaths iM_orderMany iM_orderSum iM_leastOrder rM_often iM_setMany iM_someOf iM_allOf iM_allWeight iM_enoughWeight iM_worthSum iM_firstRest iM_leastDrawn 1 9 b_iM_taped b_iM_size b_x_6236 b_x_6239 b_z_6206 b_iM_hasCourt b_iM_undos b_iM_images b_iM_scale b_iM_breaths b_iM_cutMany e_x_6235_1 (om_dc317686 kc_1 kc_9)) (cwV 2 hts (wd_V wd_446 wd_447 wd_448 wd_5 (wd_c wd_449)) rfl rfl rfl dv_yX7_number_2 ⟨Nat.le_of_ble_eq_true rfl, Nat.le_of_ble_eq_true rfl⟩) ⟨Pw.fb, recvX7 hK hP (q0 := 0) rfl, fun U hU hW => Pw.to (hP.ms _ hMs) (hD.ms _ hMs) (hK.ms [true, true, false, false, false] rfl) hE hS hFc hU hW⟩ rfl rfl hl.1 rfl (lv_room (Nat.le_of_ble_eq_true rfl)) dX7_innerLine_123 ⟨Nat.le_of_ble_eq_true rfl, Nat.le_of_ble_eq_true rfl⟩) hS (fun q _ h => hFc q h) hFc (fun r u t H locs ht hvm hw hB hz1 hk1 hS => ?_)
                        have hru9 := hw.2
                        have hw := hw.1
                        refine ex_9_8 hB (fun x_6261 x_6262 x_6263 x_6264 x_6265 x_6266 x_6267 x_6268 f_6269 b_x_6262 b_x_6265 b_x_6268 e_x_6261_0 e_x_6261_1 e_x_6261_2 e_x_6261_3 e_x_6261_4 hB => ?_)
                        obtain ⟨hP, hD⟩ := Bw.goN (ws' := [(oc7 oM iM_thrown rM_tape iM_taped iM_size x_6261 x_6262 x_6263 x_6264 x_6265 x_6266 x_6267 iM_trouble rM_letters x_6268 iM_hasCourt rM_r rM_fresh rM_told rM_read rM_st rM_undone rM_kept iM_undos iM_images rM_fresher x_6165 iM_scale iM_night rM_heardRow rM_cutRow iM_breaths iM_cutMany iM_allBreaths rM_trial rM_words iM_fewestBreaths iM_orderMany iM_orderSum iM_leastOrder rM_often iM_setMany iM_someOf iM_allOf iM_allWeight iM_enoughWeight iM_worthSum iM_firstRest iM_leastDrawn), (arI rM_tape kM_tape 900 fM_tape), (arI rM_letters kM_letters 8 f_6269), (arI rM_fresh kM_fresh 287 f_6180), (arI rM_read kM_read 90 f_6181), (arI rM_fresher kM_fresher 8 f_6167)]) hB rfl ht hP hD _ hMs hk1 hFc rfl
                        clear hz1 hk1 hvm ht hB hMs
                        rw [← hru9] at e_x_6261_4
                        obtain ⟨x_6270, rfl⟩ : ∃ z, z = r := ⟨_, rfl⟩
                        have hG := hG.trans (un10_eq e_x_6261_4)
                        have lx_6270 := hw.2
                        have kl_1 := kc_1
                        have kl_9 := kc_9
                        clear e_x_6235_1
                        clear e_x_6235_2
                        refine lv_goto (tgt := 130) hx hb dX7_innerLine_126 (by decide) ?_
                        refine lv_istore (lv' := [(6, .int x_6270), (5, .int x_6204), (4, .int z_6170), (3, .int z_6169), (2, .int x_6168), (0, .ref oM), (1, .int p0)]) hx hb dX7_innerLine_130 hl (by decide) rfl (fun ls hl => ?_)
                        refine lv_aload_n hx hb dX7_innerLine_132 rfl (lv_at hl 5 rfl) ?_
                        refine va_get (D := (dC, dI)) (ci := 7) (v := .int x_6268) (C := RX7) (T := TX7) (N := 48) hx hb hts inX7 hown hK hP 0 rfl rfl 13 (by decide) (hts _ wd_380) (fun _ h9 => h9) rfl dX7_innerLine_133 ?_
                        refine lv_if_eq (tgt := 140) hx hb dX7_innerLine_136 (by decide) (fun c_6271 => ?_) (fun c_6271 => ?_)
                        · skip
                          have hG := hG.trans (if_pos c_6271)
                          have gc_6271 := ti_eq c_6271 rfl kc_0
                          refine lv_aload_n hx hb dX7_innerLine_140 rfl (lv_at hl 5 rfl) ?_
                          refine va_get (D := (dC, dI)) (ci := 7) (v := .ref rM_read) (C := RX7) (T := TX7) (N := 48) hx hb hts inX7 hown hK hP 0 rfl rfl 18 (by decide) (hts _ wd_158) (fun _ h9 => h9) rfl dX7_innerLine_141 ?_
                          refine lv_iconst (v := 4) hx hb dX7_innerLine_144 (by decide) ?_
                          refine lv_iload_n hx hb dX7_innerLine_145 rfl (lv_at hl 4 rfl) ?_
                          refine lv_imul hx hb dX7_innerLine_146 ?_
                          refine lv_topi (fun x_6272 ex_6272 => ?_)
                          have hG := hG.trans (lt_eq ex_6272)
                          have vx_6272 : x_6272.toInt = 4 * x_6168.toInt := ti_mul ex_6272 kc_4 rfl (om_9e6bb6a4 pl_fM_fresh.2.2.2.2.1.1 pl_fM_fresh.2.2.2.2.1.2 cx_6168) (om_7d3cae7d pl_fM_fresh.2.1 pl_fM_fresh.2.2.1.2 pl_fM_fresh.2.2.2.2.2.1.2 cx_6168)
                          refine lv_iload_n hx hb dX7_innerLine_147 rfl (lv_at hl 3 rfl) ?_
                          refine lv_iadd hx hb dX7_innerLine_148 ?_
                          refine lv_topi (fun x_6273 ex_6273 => ?_)
                          have hG := hG.trans (lt_eq ex_6273)
                          have vx_6273 : x_6273.toInt = 4 * x_6168.toInt + z_6169.toInt := om_5d0caf0f (ti_add ex_6273 vx_6272 rfl (om_80a5d224 pl_fM_fresh.2.2.2.2.1.1 pl_fM_fresh.2.2.2.2.1.2 cx_6168 hi0_n_6182.1) (om_65488096 pl_fM_fresh.2.1 pl_fM_fresh.2.2.1.2 pl_fM_fresh.2.2.2.2.2.1.2 cx_6168 hi0_n_6182.2))
                          refine lv_iload hx hb dX7_innerLine_149 (lv_at hl 1 rfl) ?_
                          refine va_iast hx hb hK hP hD hS 4 3 rfl rfl (ti_in vx_6273 (om_dcc527d7 pl_fM_fresh.2.2.2.2.1.1 pl_fM_fresh.2.2.2.2.1.2 cx_6168 hi0_n_6182.1) (om_1343fdf1 pl_fM_fresh.2.1 pl_fM_fresh.2.2.1.2 pl_fM_fresh.2.2.2.2.2.1.2 cx_6168 hi0_n_6182.2)) dX7_innerLine_151 (fun H locs hP hD hS => ?_)
                          obtain ⟨f_6274, ef_6274⟩ : ∃ g : Nat → Int32, g = upd f_6181 x_6273.toNatClampNeg x_6204 := ⟨_, rfl⟩
                          rw [← ef_6274] at hP hD
                          have hG := hG.trans (lt_eq ef_6274)
                          obtain ⟨hP, hD⟩ := wl2 (ws' := [(oc7 oM iM_thrown rM_tape iM_taped iM_size x_6261 x_6262 x_6263 x_6264 x_6265 x_6266 x_6267 iM_trouble rM_letters x_6268 iM_hasCourt rM_r rM_fresh rM_told rM_read rM_st rM_undone rM_kept iM_undos iM_images rM_fresher x_6165 iM_scale iM_night rM_heardRow rM_cutRow iM_breaths iM_cutMany iM_allBreaths rM_trial rM_words iM_fewestBreaths iM_orderMany iM_orderSum iM_leastOrder rM_often iM_setMany iM_someOf iM_allOf iM_allWeight iM_enoughWeight iM_worthSum iM_firstRest iM_leastDrawn), (arI rM_tape kM_tape 900 fM_tape), (arI rM_letters kM_letters 8 f_6269), (arI rM_fresh kM_fresh 287 f_6180), (arI rM_read kM_read 90 f_6274), (arI rM_fresher kM_fresher 8 f_6167)]) hP hD rfl
                          have q_n1 := ti_cl (x := f_6180 1) rfl (by omega)
                          have pk_f_6274 : POk f_6180 f_6274 := POk.prt hi2_n_6182 ef_6274 (by have q9 := ti_cl (x := x_6273) vx_6273 (om_dcc527d7 pl_fM_fresh.2.2.2.2.1.1 pl_fM_fresh.2.2.2.2.1.2 cx_6168 hi0_n_6182.1); omega) (by have q9 := ti_cl (x := x_6273) vx_6273 (om_dcc527d7 pl_fM_fresh.2.2.2.2.1.1 pl_fM_fresh.2.2.2.2.1.2 cx_6168 hi0_n_6182.1); omega)
                          refine lv_aload_n hx hb dX7_innerLine_152 rfl (lv_at hl 5 rfl) ?_
                          refine va_get (D := (dC, dI)) (ci := 7) (v := .ref rM_fresh) (C := RX7) (T := TX7) (N := 48) hx hb hts inX7 hown hK hP 0 rfl rfl 16 (by decide) (hts _ wd_156) (fun _ h9 => h9) rfl dX7_innerLine_153 ?_
                          refine lv_bipush (v := 45) hx hb dX7_innerLine_156 (by decide) ?_
                          refine lv_iconst (v := 4) hx hb dX7_innerLine_158 (by decide) ?_
                          refine lv_iload_n hx hb dX7_innerLine_159 rfl (lv_at hl 4 rfl) ?_
                          refine lv_imul hx hb dX7_innerLine_160 ?_
                          refine lv_topi (fun x_6275 ex_6275 => ?_)
                          have hG := hG.trans (lt_eq ex_6275)
                          have vx_6275 : x_6275.toInt = 4 * x_6168.toInt := ti_mul ex_6275 kc_4 rfl (om_9e6bb6a4 pl_fM_fresh.2.2.2.2.1.1 pl_fM_fresh.2.2.2.2.1.2 cx_6168) (om_7d3cae7d pl_fM_fresh.2.1 pl_fM_fresh.2.2.1.2 pl_fM_fresh.2.2.2.2.2.1.2 cx_6168)
                          refine lv_iadd hx hb dX7_innerLine_161 ?_
                          refine lv_topi (fun x_6276 ex_6276 => ?_)
                          have hG := hG.trans (lt_eq ex_6276)
                          have vx_6276 : x_6276.toInt = 4 * x_6168.toInt + 45 := om_702bf7ac (ti_add ex_6276 kc_45 vx_6275 (om_0c5ad906 pl_fM_fresh.2.2.2.2.1.1 pl_fM_fresh.2.2.2.2.1.2 cx_6168) (om_5da1924c pl_fM_fresh.2.1 pl_fM_fresh.2.2.1.2 pl_fM_fresh.2.2.2.2.2.1.2 cx_6168))
                          refine lv_iload_n hx hb dX7_innerLine_162 rfl (lv_at hl 3 rfl) ?_
                          refine lv_iadd hx hb dX7_innerLine_163 ?_
                          refine lv_topi (fun x_6277 ex_6277 => ?_)
                          have hG := hG.trans (lt_eq ex_6277)
                          have vx_6277 : x_6277.toInt = 4 * x_6168.toInt + z_6169.toInt + 45 := om_0ab12ad6 (ti_add ex_6277 vx_6276 rfl (om_563b8554 pl_fM_fresh.2.2.2.2.1.1 pl_fM_fresh.2.2.2.2.1.2 cx_6168 hi0_n_6182.1) (om_87f6ba8c pl_fM_fresh.2.1 pl_fM_fresh.2.2.1.2 pl_fM_fresh.2.2.2.2.2.1.2 cx_6168 hi0_n_6182.2))
                          refine lv_iload hx hb dX7_innerLine_164 (lv_at hl 0 rfl) ?_
                          refine va_iast hx hb hK hP hD hS 3 2 rfl rfl (ti_in vx_6277 (om_d2c9edc5 pl_fM_fresh.2.2.2.2.1.1 pl_fM_fresh.2.2.2.2.1.2 cx_6168 hi0_n_6182.1) (om_21e450b4 pl_fM_fresh.2.1 pl_fM_fresh.2.2.1.2 pl_fM_fresh.2.2.2.2.2.1.2 cx_6168 hi0_n_6182.2)) dX7_innerLine_166 (fun H locs hP hD hS => ?_)
                          obtain ⟨f_6278, ef_6278⟩ : ∃ g : Nat → Int32, g = upd f_6180 x_6277.toNatClampNeg x_6270 := ⟨_, rfl⟩
                          rw [← ef_6278] at hP hD
                          have hG := hG.trans (lt_eq ef_6278)
                          obtain ⟨hP, hD⟩ := wl2 (ws' := [(oc7 oM iM_thrown rM_tape iM_taped iM_size x_6261 x_6262 x_6263 x_6264 x_6265 x_6266 x_6267 iM_trouble rM_letters x_6268 iM_hasCourt rM_r rM_fresh rM_told rM_read rM_st rM_undone rM_kept iM_undos iM_images rM_fresher x_6165 iM_scale iM_night rM_heardRow rM_cutRow iM_breaths iM_cutMany iM_allBreaths rM_trial rM_words iM_fewestBreaths iM_orderMany iM_orderSum iM_leastOrder rM_often iM_setMany iM_someOf iM_allOf iM_allWeight iM_enoughWeight iM_worthSum iM_firstRest iM_leastDrawn), (arI rM_tape kM_tape 900 fM_tape), (arI rM_letters kM_letters 8 f_6269), (arI rM_fresh kM_fresh 287 f_6278), (arI rM_read kM_read 90 f_6274), (arI rM_fresher kM_fresher 8 f_6167)]) hP hD rfl
                          have pk_f_6278 : POk f_6278 f_6274 := POk.put pk_f_6274 ef_6278 (Or.inr (Or.inr (Or.inr (Or.inr (Or.inr (Or.inl (by have q9 := ti_cl (x := x_6277) vx_6277 (om_d2c9edc5 pl_fM_fresh.2.2.2.2.1.1 pl_fM_fresh.2.2.2.2.1.2 cx_6168 hi0_n_6182.1); omega)))))))
                          have pl_f_6278 := pk_f_6278.lins
                          have nn9 : (f_6180 1).toNatClampNeg = x_6168.toNatClampNeg := by have q1 := ti_cl (x := x_6168) rfl (om_1ab2c227 pl_fM_fresh.2.2.2.2.1.1 pl_fM_fresh.2.2.2.2.1.2 cx_6168); have q2 := ti_cl (x := f_6180 1) rfl (by omega); have q3 := ti_cl (x := z_6169) rfl hi0_n_6182.1; omega
                          have in9 : InOk f_6278 f_6274 (f_6278 1).toNatClampNeg (z_6169.toNatClampNeg + 1) p0.toInt := in_step hi3_n_6182 rfl ef_6274 (by have q1 := ti_cl (x := x_6168) rfl (om_1ab2c227 pl_fM_fresh.2.2.2.2.1.1 pl_fM_fresh.2.2.2.2.1.2 cx_6168); have q2 := ti_cl (x := f_6180 1) rfl (by omega); have q3 := ti_cl (x := z_6169) rfl hi0_n_6182.1; have q9 := ti_cl (x := x_6273) vx_6273 (om_dcc527d7 pl_fM_fresh.2.2.2.2.1.1 pl_fM_fresh.2.2.2.2.1.2 cx_6168 hi0_n_6182.1); omega) ef_6278 (by have q1 := ti_cl (x := x_6168) rfl (om_1ab2c227 pl_fM_fresh.2.2.2.2.1.1 pl_fM_fresh.2.2.2.2.1.2 cx_6168); have q2 := ti_cl (x := f_6180 1) rfl (by omega); have q3 := ti_cl (x := z_6169) rfl hi0_n_6182.1; have q9 := ti_cl (x := x_6277) vx_6277 (om_d2c9edc5 pl_fM_fresh.2.2.2.2.1.1 pl_fM_fresh.2.2.2.2.1.2 cx_6168 hi0_n_6182.1); omega) (by omega) (by have q1 := ti_cl (x := x_6168) rfl (om_1ab2c227 pl_fM_fresh.2.2.2.2.1.1 pl_fM_fresh.2.2.2.2.1.2 cx_6168); have q2 := ti_cl (x := f_6180 1) rfl (by omega); have q3 := ti_cl (x := z_6169) rfl hi0_n_6182.1; omega) (fun i9 h9 => by rw [nn9]; exact hi2_n_6209 (by omega) i9 (by have q1 := ti_cl (x := x_6168) rfl (om_1ab2c227 pl_fM_fresh.2.2.2.2.1.1 pl_fM_fresh.2.2.2.2.1.2 cx_6168); have q2 := ti_cl (x := f_6180 1) rfl (by omega); have q3 := ti_cl (x := z_6169) rfl hi0_n_6182.1; have q4 := ti_cl (x := z_6205) rfl hi0_n_6209.1; omega)) (fun h9 => by have q0 := kc_0; omega) rfl
                          have o1_f_6278 : (f_6278 1).toInt = (f_6180 1).toInt := put_at ef_6278 (Nat.ne_of_lt (om_9b872883 (ti_cl (x := x_6277) vx_6277 (om_d2c9edc5 pl_fM_fresh.2.2.2.2.1.1 pl_fM_fresh.2.2.2.2.1.2 cx_6168 hi0_n_6182.1)) pl_fM_fresh.2.2.2.2.1.1 pl_fM_fresh.2.2.2.2.1.2 cx_6168 hi0_n_6182.1))
                          have o7_f_6278 : (f_6278 7).toInt = (f_6180 7).toInt := put_at ef_6278 (Nat.ne_of_lt (om_58da8a1c (ti_cl (x := x_6277) vx_6277 (om_d2c9edc5 pl_fM_fresh.2.2.2.2.1.1 pl_fM_fresh.2.2.2.2.1.2 cx_6168 hi0_n_6182.1)) pl_fM_fresh.2.2.2.2.1.1 pl_fM_fresh.2.2.2.2.1.2 cx_6168 hi0_n_6182.1))
                          have o8_f_6278 : (f_6278 8).toInt = (f_6180 8).toInt := put_at ef_6278 (Nat.ne_of_lt (om_f4400bad (ti_cl (x := x_6277) vx_6277 (om_d2c9edc5 pl_fM_fresh.2.2.2.2.1.1 pl_fM_fresh.2.2.2.2.1.2 cx_6168 hi0_n_6182.1)) pl_fM_fresh.2.2.2.2.1.1 pl_fM_fresh.2.2.2.2.1.2 cx_6168 hi0_n_6182.1))
                          obtain ⟨x_6279, ex_6279⟩ : ∃ z : Int32, z = z_6169 + Int32.ofInt 1 := ⟨_, rfl⟩
                          have hG := hG.trans (lt_eq ex_6279)
                          have vx_6279 : x_6279.toInt = z_6169.toInt + 1 := ti_add (y := 1) ex_6279 rfl kc_1 (om_4e4fce7e hi0_n_6182.1) (om_bae2951a hi0_n_6182.2)
                          refine lv_iinc (v := x_6279) (lv' := [(3, .int x_6279), (6, .int x_6270), (5, .int x_6204), (4, .int z_6170), (2, .int x_6168), (0, .ref oM), (1, .int p0)]) hx hb dX7_innerLine_167 hl (k := 3) rfl ex_6279.symm (by decide) rfl (fun ls hl => ?_)
                          refine lv_aload_n hx hb dX7_innerLine_170 rfl (lv_at hl 5 rfl) ?_
                          refine va_get (D := (dC, dI)) (ci := 7) (v := .int x_6263) (C := RX7) (T := TX7) (N := 48) hx hb hts inX7 hown hK hP 0 rfl rfl 6 (by decide) (hts _ wd_383) (fun _ h9 => h9) rfl dX7_innerLine_171 ?_
                          refine lv_bipush (v := 44) hx hb dX7_innerLine_174 (by decide) ?_
                          refine lv_icmp_ne (tgt := 183) hx hb dX7_innerLine_176 (by decide) (fun c_6280 => ?_) (fun c_6280 => ?_)
                          · skip
                            have hG := hG.trans (if_neg c_6280)
                            have gc_6280 := ti_ne c_6280 rfl kc_44
                            clear gc_6280
                            refine lv_iconst (v := 0) hx hb dX7_innerLine_183 (by decide) ?_
                            refine lv_istore (lv' := [(4, .int 0), (3, .int x_6279), (6, .int x_6270), (5, .int x_6204), (2, .int x_6168), (0, .ref oM), (1, .int p0)]) hx hb dX7_innerLine_184 hl (by decide) rfl (fun ls hl => ?_)
                            refine lv_iload hx hb dX7_innerLine_186 (lv_at hl 0 rfl) ?_
                            refine lv_if_eq (tgt := 195) hx hb dX7_innerLine_188 (by decide) (fun _ => ?_) (fun c => absurd c (by decide))
                            refine lv_goto (tgt := 24) hx hb dX7_innerLine_195 (by decide) ?_
                            exact ih_n_6182 x_6279 0 x_6261 x_6262 x_6263 x_6264 x_6265 x_6266 x_6267 x_6268 f_6269 f_6278 f_6274 _ _ _ b_x_6262 b_x_6265 b_x_6268 ⟨(om_83b90de5 hi0_n_6182.1 vx_6279), (om_2c69d3de gc_6234 vx_6279)⟩ ⟨(om_b1de7dbe kc_0), (om_270f4ea0 kc_0)⟩ (by assumption) (by rw [show x_6279.toNatClampNeg = z_6169.toNatClampNeg + 1 from (by have q1 := ti_cl (x := x_6279) vx_6279 (om_9548a8fd hi0_n_6182.1); have q2 := ti_cl (x := z_6169) rfl hi0_n_6182.1; omega)]; exact in9) ⟨(om_216d7917 hi4_n_6182.1 o1_f_6278), (om_216d7917 hi4_n_6182.2.1 o7_f_6278), (om_216d7917 hi4_n_6182.2.2 o8_f_6278)⟩ (fun h9 => (om_285f573d hi0_n_6182.1 vx_6279)) e_x_6261_1 (om_622f2a87 hi7_n_6182 e_x_6235_0 e_x_6261_0) (fun h9 => (om_2d38588c hi7_n_6182 e_x_6235_0 (e_x_6261_3 ⟨(om_02e9bb08 gc_6271), h9.2⟩))) (ms_lt hm_n_6182 (om_ed22490e vx_6279) (om_36ac28fa gc_6234)) hG hP hD hS (lv_sub hl [0, 1, 4, 5, 6] rfl)
                          · skip
                            have hG := hG.trans (if_pos c_6280)
                            have gc_6280 := ti_eq c_6280 rfl kc_44
                            refine lv_iconst (v := 1) hx hb dX7_innerLine_179 (by decide) ?_
                            refine lv_goto (tgt := 184) hx hb dX7_innerLine_180 (by decide) ?_
                            refine lv_istore (lv' := [(4, .int 1), (3, .int x_6279), (6, .int x_6270), (5, .int x_6204), (2, .int x_6168), (0, .ref oM), (1, .int p0)]) hx hb dX7_innerLine_184 hl (by decide) rfl (fun ls hl => ?_)
                            refine lv_iload hx hb dX7_innerLine_186 (lv_at hl 0 rfl) ?_
                            refine lv_if_eq (tgt := 195) hx hb dX7_innerLine_188 (by decide) (fun c => absurd c (by decide)) (fun _ => ?_)
                            refine lv_aload_n hx hb dX7_innerLine_191 rfl (lv_at hl 5 rfl) ?_
                            have hMs := ml_of hD [true, true, true, false, false, false] (wc := [(oc7 oM iM_thrown rM_tape iM_taped iM_size x_6261 x_6262 x_6263 x_6264 x_6265 x_6266 x_6267 iM_trouble rM_letters x_6268 iM_hasCourt rM_r rM_fresh rM_told rM_read rM_st rM_undone rM_kept iM_undos iM_images rM_fresher x_6165 iM_scale iM_night rM_heardRow rM_cutRow iM_breaths iM_cutMany iM_allBreaths rM_trial rM_words iM_fewestBreaths iM_orderMany iM_orderSum iM_leastOrder rM_often iM_setMany iM_someOf iM_allOf iM_allWeight iM_enoughWeight iM_worthSum iM_firstRest iM_leastDrawn), (arI rM_tape kM_tape 900 fM_tape), (arI rM_letters kM_letters 8 f_6269)]) rfl
                            have hFc := va_freeM hD hS hA _ hMs
                            refine va_callv (va_runV (As := []) (rest := []) ⟨hx, hb, hml, hown, hts⟩ (tX7_next l dC dI _ oM iM_thrown rM_tape fM_tape kM_tape iM_taped iM_size x_6261 x_6262 x_6263 x_6264 x_6265 x_6266 x_6267 iM_trouble rM_letters f_6269 kM_letters x_6268 iM_hasCourt rM_r rM_fresh rM_told rM_read rM_st rM_undone rM_kept iM_undos iM_images rM_fresher x_6165 iM_scale iM_night rM_heardRow rM_cutRow iM_breaths iM_cutMany iM_allBreaths rM_trial rM_words iM_fewestBreaths iM_orderMany iM_orderSum iM_leastOrder rM_often iM_setMany iM_someOf iM_allOf iM_allWeight iM_enoughWeight iM_worthSum iM_firstRest iM_leastDrawn b_iM_taped b_iM_size b_x_6262 b_x_6265 b_x_6268 b_iM_hasCourt b_iM_undos b_iM_images b_iM_scale b_iM_breaths b_iM_cutMany e_x_6261_1) (cwV 0 hts (wd_V wd_400 wd_401 wd_402 wd_5 (wd_c wd_403)) rfl rfl rfl dv_yX7_next_0 ⟨Nat.le_of_ble_eq_true rfl, Nat.le_of_ble_eq_true rfl⟩) ⟨Pw.fb, recvX7 hK hP (q0 := 0) rfl, fun U hU hW => Pw.to (hP.ms _ hMs) (hD.ms _ hMs) (hK.ms [true, true, false, false, false] rfl) hE hS hFc hU hW⟩ rfl rfl hl.1 rfl (lv_room (Nat.le_of_ble_eq_true rfl)) dX7_innerLine_192 ⟨Nat.le_of_ble_eq_true rfl, Nat.le_of_ble_eq_true rfl⟩) hS (fun q _ h => hFc q h) hFc (fun u t H locs ht hvm hw hB hz1 hk1 hS => ?_)
                            refine ex_6_6 hB (fun x_6283 x_6284 x_6285 x_6286 x_6287 f_6288 b_x_6284 b_x_6287 e_x_6283_0 e_x_6283_1 e_x_6283_2 e_x_6283_3 hB => ?_)
                            obtain ⟨hP, hD⟩ := Bw.goN (ws' := [(oc7 oM iM_thrown rM_tape iM_taped iM_size x_6283 x_6284 x_6285 x_6286 x_6287 x_6266 x_6267 iM_trouble rM_letters x_6268 iM_hasCourt rM_r rM_fresh rM_told rM_read rM_st rM_undone rM_kept iM_undos iM_images rM_fresher x_6165 iM_scale iM_night rM_heardRow rM_cutRow iM_breaths iM_cutMany iM_allBreaths rM_trial rM_words iM_fewestBreaths iM_orderMany iM_orderSum iM_leastOrder rM_often iM_setMany iM_someOf iM_allOf iM_allWeight iM_enoughWeight iM_worthSum iM_firstRest iM_leastDrawn), (arI rM_tape kM_tape 900 fM_tape), (arI rM_letters kM_letters 8 f_6288), (arI rM_fresh kM_fresh 287 f_6278), (arI rM_read kM_read 90 f_6274), (arI rM_fresher kM_fresher 8 f_6167)]) hB rfl ht hP hD _ hMs hk1 hFc rfl
                            clear hz1 hk1 hvm ht hB hMs
                            have hG := hG.trans (un6_eq e_x_6283_3)
                            clear e_x_6261_1
                            clear e_x_6261_3
                            refine lv_goto (tgt := 24) hx hb dX7_innerLine_195 (by decide) ?_
                            exact ih_n_6182 x_6279 1 x_6283 x_6284 x_6285 x_6286 x_6287 x_6266 x_6267 x_6268 f_6288 f_6278 f_6274 _ _ _ b_x_6284 b_x_6287 b_x_6268 ⟨(om_83b90de5 hi0_n_6182.1 vx_6279), (om_2c69d3de gc_6234 vx_6279)⟩ ⟨(om_1b364b1c kc_1), (om_02032f93 kc_1)⟩ (by assumption) (by rw [show x_6279.toNatClampNeg = z_6169.toNatClampNeg + 1 from (by have q1 := ti_cl (x := x_6279) vx_6279 (om_9548a8fd hi0_n_6182.1); have q2 := ti_cl (x := z_6169) rfl hi0_n_6182.1; omega)]; exact in9) ⟨(om_216d7917 hi4_n_6182.1 o1_f_6278), (om_216d7917 hi4_n_6182.2.1 o7_f_6278), (om_216d7917 hi4_n_6182.2.2 o8_f_6278)⟩ (fun h9 => (om_285f573d hi0_n_6182.1 vx_6279)) e_x_6283_1 (om_dc41b317 hi7_n_6182 e_x_6235_0 e_x_6261_0 e_x_6283_0) (fun h9 => (om_67b34c44 hi7_n_6182 e_x_6235_0 e_x_6261_0 (e_x_6283_2 h9.2))) (ms_lt hm_n_6182 (om_ed22490e vx_6279) (om_36ac28fa gc_6234)) hG hP hD hS (lv_sub hl [0, 1, 4, 5, 6] rfl)
                        · skip
                          have hG := hG.trans (if_neg c_6271)
                          have gc_6271 := ti_ne c_6271 rfl kc_0
                          replace gc_6271 : (-1) * x_6268.toInt + 1 ≤ 0 := om_e3003f79 gc_6271 b_x_6268.1
                          exact wq_v hx hb hr 0 trivial (fun t ht hW => ⟨x_6261, x_6262, x_6263, x_6264, x_6265, x_6266, x_6267, x_6268, x_6165, f_6269, f_6180, f_6181, f_6167, b_x_6262, b_x_6265, b_x_6268, (om_622f2a87 hi7_n_6182 e_x_6235_0 e_x_6261_0), e_x_6261_1, (om_1fc3dec6 gc_6155 b_x_6268.1), (fun h9 => False.elim (om_a5fe015d gc_6271 h9.1)), hi2_n_6182, hG, Bw.to hP hD hK ht hW⟩) hS dX7_innerLine_139 hlocks
                    · skip
                      have hG := hG.trans (if_pos c_6234)
                      have gc_6234 := ti_eq c_6234 rfl kc_4
                      refine lv_aload_n hx hb dX7_innerLine_101 rfl (lv_at hl 5 rfl) ?_
                      refine lv_iconst (v := 5) hx hb dX7_innerLine_102 (by decide) ?_
                      refine lv_aload_n hx hb dX7_innerLine_103 rfl (lv_at hl 5 rfl) ?_
                      refine va_get (D := (dC, dI)) (ci := 7) (v := .int z_6171) (C := RX7) (T := TX7) (N := 48) hx hb hts inX7 hown hK hP 0 rfl rfl 4 (by decide) (hts _ wd_384) (fun _ h9 => h9) rfl dX7_innerLine_104 ?_
                      have hMs := ml_of hD [true, false, false, false, false, false] (wc := [(oc7 oM iM_thrown rM_tape iM_taped iM_size z_6171 z_6172 z_6173 z_6174 z_6175 z_6207 z_6208 iM_trouble rM_letters z_6206 iM_hasCourt rM_r rM_fresh rM_told rM_read rM_st rM_undone rM_kept iM_undos iM_images rM_fresher x_6165 iM_scale iM_night rM_heardRow rM_cutRow iM_breaths iM_cutMany iM_allBreaths rM_trial rM_words iM_fewestBreaths iM_orderMany iM_orderSum iM_leastOrder rM_often iM_setMany iM_someOf iM_allOf iM_allWeight iM_enoughWeight iM_worthSum iM_firstRest iM_leastDrawn)]) rfl
                      have hFc := va_freeM hD hS hA _ hMs
                      refine va_callv (va_runV (As := [.int 5, .int z_6171]) (rest := []) ⟨hx, hb, hml, hown, hts⟩ (tX7_wrong l dC dI _ oM iM_thrown rM_tape iM_taped iM_size z_6171 z_6172 z_6173 z_6174 z_6175 z_6207 z_6208 iM_trouble rM_letters z_6206 iM_hasCourt rM_r rM_fresh rM_told rM_read rM_st rM_undone rM_kept iM_undos iM_images rM_fresher x_6165 iM_scale iM_night rM_heardRow rM_cutRow iM_breaths iM_cutMany iM_allBreaths rM_trial rM_words iM_fewestBreaths iM_orderMany iM_orderSum iM_leastOrder rM_often iM_setMany iM_someOf iM_allOf iM_allWeight iM_enoughWeight iM_worthSum iM_firstRest iM_leastDrawn 5 z_6171 b_iM_taped b_iM_size b_z_6172 b_z_6175 b_z_6206 b_iM_hasCourt b_iM_undos b_iM_images b_iM_scale b_iM_breaths b_iM_cutMany hi6_n_6182) (cwV 2 hts (wd_V wd_430 wd_431 wd_432 wd_5 (wd_c wd_433)) rfl rfl rfl dv_yX7_wrong_2 ⟨Nat.le_of_ble_eq_true rfl, Nat.le_of_ble_eq_true rfl⟩) ⟨Pw.fb, recvX7 hK hP (q0 := 0) rfl, fun U hU hW => Pw.to (hP.ms _ hMs) (hD.ms _ hMs) (hK.ms [false, false, false, false, false] rfl) hE hS hFc hU hW⟩ rfl rfl hl.1 rfl (lv_room (Nat.le_of_ble_eq_true rfl)) dX7_innerLine_107 ⟨Nat.le_of_ble_eq_true rfl, Nat.le_of_ble_eq_true rfl⟩) hS (fun q _ h => hFc q h) hFc (fun u t H locs ht hvm hw hB hz1 hk1 hS => ?_)
                      refine ex_3_3 hB (fun x_6289 x_6290 x_6291 b_x_6291 e_x_6289_0 e_x_6289_1 hB => ?_)
                      obtain ⟨hP, hD⟩ := Bw.goN (ws' := [(oc7 oM iM_thrown rM_tape iM_taped iM_size z_6171 z_6172 z_6173 z_6174 z_6175 x_6289 x_6290 iM_trouble rM_letters x_6291 iM_hasCourt rM_r rM_fresh rM_told rM_read rM_st rM_undone rM_kept iM_undos iM_images rM_fresher x_6165 iM_scale iM_night rM_heardRow rM_cutRow iM_breaths iM_cutMany iM_allBreaths rM_trial rM_words iM_fewestBreaths iM_orderMany iM_orderSum iM_leastOrder rM_often iM_setMany iM_someOf iM_allOf iM_allWeight iM_enoughWeight iM_worthSum iM_firstRest iM_leastDrawn), (arI rM_tape kM_tape 900 fM_tape), (arI rM_letters kM_letters 8 f_6179), (arI rM_fresh kM_fresh 287 f_6180), (arI rM_read kM_read 90 f_6181), (arI rM_fresher kM_fresher 8 f_6167)]) hB rfl ht hP hD _ hMs hk1 hFc rfl
                      clear hz1 hk1 hvm ht hB hMs
                      have hG := hG.trans (un3_eq e_x_6289_1)
                      refine lv_aload_n hx hb dX7_innerLine_110 rfl (lv_at hl 5 rfl) ?_
                      have hMs := ml_of hD [true, true, true, false, false, false] (wc := [(oc7 oM iM_thrown rM_tape iM_taped iM_size z_6171 z_6172 z_6173 z_6174 z_6175 x_6289 x_6290 iM_trouble rM_letters x_6291 iM_hasCourt rM_r rM_fresh rM_told rM_read rM_st rM_undone rM_kept iM_undos iM_images rM_fresher x_6165 iM_scale iM_night rM_heardRow rM_cutRow iM_breaths iM_cutMany iM_allBreaths rM_trial rM_words iM_fewestBreaths iM_orderMany iM_orderSum iM_leastOrder rM_often iM_setMany iM_someOf iM_allOf iM_allWeight iM_enoughWeight iM_worthSum iM_firstRest iM_leastDrawn), (arI rM_tape kM_tape 900 fM_tape), (arI rM_letters kM_letters 8 f_6179)]) rfl
                      have hFc := va_freeM hD hS hA _ hMs
                      refine va_callv (va_runV (As := []) (rest := []) ⟨hx, hb, hml, hown, hts⟩ (tX7_pass l dC dI _ oM iM_thrown rM_tape fM_tape kM_tape iM_taped iM_size z_6171 z_6172 z_6173 z_6174 z_6175 x_6289 x_6290 iM_trouble rM_letters f_6179 kM_letters x_6291 iM_hasCourt rM_r rM_fresh rM_told rM_read rM_st rM_undone rM_kept iM_undos iM_images rM_fresher x_6165 iM_scale iM_night rM_heardRow rM_cutRow iM_breaths iM_cutMany iM_allBreaths rM_trial rM_words iM_fewestBreaths iM_orderMany iM_orderSum iM_leastOrder rM_often iM_setMany iM_someOf iM_allOf iM_allWeight iM_enoughWeight iM_worthSum iM_firstRest iM_leastDrawn b_iM_taped b_iM_size b_z_6172 b_z_6175 b_x_6291 b_iM_hasCourt b_iM_undos b_iM_images b_iM_scale b_iM_breaths b_iM_cutMany hi6_n_6182) (cwV 0 hts (wd_V wd_454 wd_455 wd_456 wd_5 (wd_c wd_457)) rfl rfl rfl dv_yX7_pass_0 ⟨Nat.le_of_ble_eq_true rfl, Nat.le_of_ble_eq_true rfl⟩) ⟨Pw.fb, recvX7 hK hP (q0 := 0) rfl, fun U hU hW => Pw.to (hP.ms _ hMs) (hD.ms _ hMs) (hK.ms [true, true, false, false, false] rfl) hE hS hFc hU hW⟩ rfl rfl hl.1 rfl (lv_room (Nat.le_of_ble_eq_true rfl)) dX7_innerLine_111 ⟨Nat.le_of_ble_eq_true rfl, Nat.le_of_ble_eq_true rfl⟩) hS (fun q _ h => hFc q h) hFc (fun u t H locs ht hvm hw hB hz1 hk1 hS => ?_)
                      refine ex_6_6 hB (fun x_6292 x_6293 x_6294 x_6295 x_6296 f_6297 b_x_6293 b_x_6296 e_x_6292_0 e_x_6292_1 e_x_6292_2 e_x_6292_3 hB => ?_)
                      obtain ⟨hP, hD⟩ := Bw.goN (ws' := [(oc7 oM iM_thrown rM_tape iM_taped iM_size x_6292 x_6293 x_6294 x_6295 x_6296 x_6289 x_6290 iM_trouble rM_letters x_6291 iM_hasCourt rM_r rM_fresh rM_told rM_read rM_st rM_undone rM_kept iM_undos iM_images rM_fresher x_6165 iM_scale iM_night rM_heardRow rM_cutRow iM_breaths iM_cutMany iM_allBreaths rM_trial rM_words iM_fewestBreaths iM_orderMany iM_orderSum iM_leastOrder rM_often iM_setMany iM_someOf iM_allOf iM_allWeight iM_enoughWeight iM_worthSum iM_firstRest iM_leastDrawn), (arI rM_tape kM_tape 900 fM_tape), (arI rM_letters kM_letters 8 f_6297), (arI rM_fresh kM_fresh 287 f_6180), (arI rM_read kM_read 90 f_6181), (arI rM_fresher kM_fresher 8 f_6167)]) hB rfl ht hP hD _ hMs hk1 hFc rfl
                      clear hz1 hk1 hvm ht hB hMs
                      have hG := hG.trans (un6_eq e_x_6292_3)
                      clear hi6_n_6182
                      clear hi8_n_6182
                      refine lv_iload_n hx hb dX7_innerLine_114 rfl (lv_at hl 6 rfl) ?_
                      refine lv_iconst (v := 3) hx hb dX7_innerLine_115 (by decide) ?_
                      refine lv_icmp_ne (tgt := 129) hx hb dX7_innerLine_116 (by decide) (fun c_6298 => ?_) (fun c_6298 => ?_)
                      · skip
                        have hG := hG.trans (if_neg c_6298)
                        have gc_6298 := ti_ne c_6298 rfl kc_3
                        replace gc_6298 : p0.toInt + (-2) ≤ 0 := om_b7ea5ffe gc_6298 hp0.2
                        clear hic
                        refine lv_iconst (v := 0) hx hb dX7_innerLine_129 (by decide) ?_
                        refine lv_istore (lv' := [(6, .int 0), (5, .int x_6204), (4, .int z_6170), (3, .int z_6169), (2, .int x_6168), (0, .ref oM), (1, .int p0)]) hx hb dX7_innerLine_130 hl (by decide) rfl (fun ls hl => ?_)
                        refine lv_aload_n hx hb dX7_innerLine_132 rfl (lv_at hl 5 rfl) ?_
                        refine va_get (D := (dC, dI)) (ci := 7) (v := .int x_6291) (C := RX7) (T := TX7) (N := 48) hx hb hts inX7 hown hK hP 0 rfl rfl 13 (by decide) (hts _ wd_380) (fun _ h9 => h9) rfl dX7_innerLine_133 ?_
                        refine lv_if_eq (tgt := 140) hx hb dX7_innerLine_136 (by decide) (fun c_6299 => ?_) (fun c_6299 => ?_)
                        · skip
                          have hG := hG.trans (if_pos c_6299)
                          have gc_6299 := ti_eq c_6299 rfl kc_0
                          exact ((om_b1155cdc e_x_6289_0 gc_6299)).elim
                        · skip
                          have hG := hG.trans (if_neg c_6299)
                          have gc_6299 := ti_ne c_6299 rfl kc_0
                          replace gc_6299 : (-1) * x_6291.toInt + 1 ≤ 0 := om_e3003f79 gc_6299 b_x_6291.1
                          exact wq_v hx hb hr 0 trivial (fun t ht hW => ⟨x_6292, x_6293, x_6294, x_6295, x_6296, x_6289, x_6290, x_6291, x_6165, f_6297, f_6180, f_6181, f_6167, b_x_6293, b_x_6296, b_x_6291, (om_9348f5ae hi7_n_6182 e_x_6292_0), e_x_6292_1, (om_1fc3dec6 gc_6155 b_x_6291.1), (fun h9 => False.elim (om_92495247 e_x_6289_0 h9.1)), hi2_n_6182, hG, Bw.to hP hD hK ht hW⟩) hS dX7_innerLine_139 hlocks
                      · skip
                        have hG := hG.trans (if_pos c_6298)
                        have gc_6298 := ti_eq c_6298 rfl kc_3
                        have h_6300 : (fM_fresh 8).toInt ≤ 1 := hic ⟨(om_02e9bb08 gc_6155), (om_ce492ef9 hp0.2 gc_6298)⟩
                        clear hic
                        refine lv_aload_n hx hb dX7_innerLine_119 rfl (lv_at hl 5 rfl) ?_
                        refine lv_iconst (v := 1) hx hb dX7_innerLine_120 (by decide) ?_
                        refine lv_bipush (v := 9) hx hb dX7_innerLine_121 (by decide) ?_
                        have hMs := ml_of hD [true, true, true, false, false, false] (wc := [(oc7 oM iM_thrown rM_tape iM_taped iM_size x_6292 x_6293 x_6294 x_6295 x_6296 x_6289 x_6290 iM_trouble rM_letters x_6291 iM_hasCourt rM_r rM_fresh rM_told rM_read rM_st rM_undone rM_kept iM_undos iM_images rM_fresher x_6165 iM_scale iM_night rM_heardRow rM_cutRow iM_breaths iM_cutMany iM_allBreaths rM_trial rM_words iM_fewestBreaths iM_orderMany iM_orderSum iM_leastOrder rM_often iM_setMany iM_someOf iM_allOf iM_allWeight iM_enoughWeight iM_worthSum iM_firstRest iM_leastDrawn), (arI rM_tape kM_tape 900 fM_tape), (arI rM_letters kM_letters 8 f_6297)]) rfl
                        have hFc := va_freeM hD hS hA _ hMs
                        refine va_calli (va_runV (As := [.int 1, .int 9]) (rest := []) ⟨hx, hb, hml, hown, hts⟩ (tX7_number l dC dI _ oM iM_thrown rM_tape fM_tape kM_tape iM_taped iM_size x_6292 x_6293 x_6294 x_6295 x_6296 x_6289 x_6290 iM_trouble rM_letters f_6297 kM_letters x_6291 iM_hasCourt rM_r rM_fresh rM_told rM_read rM_st rM_undone rM_kept iM_undos iM_images rM_fresher x_6165 iM_scale iM_night rM_heardRow rM_cutRow iM_breaths iM_cutMany iM_allBreaths rM_trial rM_words iM_fewestBreaths iM_orderMany iM_orderSum iM_leastOrder rM_often iM_setMany iM_someOf iM_allOf iM_allWeight iM_enoughWeight iM_worthSum iM_firstRest iM_leastDrawn 1 9 b_iM_taped b_iM_size b_x_6293 b_x_6296 b_x_6291 b_iM_hasCourt b_iM_undos b_iM_images b_iM_scale b_iM_breaths b_iM_cutMany e_x_6292_1 (om_dc317686 kc_1 kc_9)) (cwV 2 hts (wd_V wd_446 wd_447 wd_448 wd_5 (wd_c wd_449)) rfl rfl rfl dv_yX7_number_2 ⟨Nat.le_of_ble_eq_true rfl, Nat.le_of_ble_eq_true rfl⟩) ⟨Pw.fb, recvX7 hK hP (q0 := 0) rfl, fun U hU hW => Pw.to (hP.ms _ hMs) (hD.ms _ hMs) (hK.ms [true, true, false, false, false] rfl) hE hS hFc hU hW⟩ rfl rfl hl.1 rfl (lv_room (Nat.le_of_ble_eq_true rfl)) dX7_innerLine_123 ⟨Nat.le_of_ble_eq_true rfl, Nat.le_of_ble_eq_true rfl⟩) hS (fun q _ h => hFc q h) hFc (fun r u t H locs ht hvm hw hB hz1 hk1 hS => ?_)
                        have hru9 := hw.2
                        have hw := hw.1
                        refine ex_9_8 hB (fun x_6301 x_6302 x_6303 x_6304 x_6305 x_6306 x_6307 x_6308 f_6309 b_x_6302 b_x_6305 b_x_6308 e_x_6301_0 e_x_6301_1 e_x_6301_2 e_x_6301_3 e_x_6301_4 hB => ?_)
                        obtain ⟨hP, hD⟩ := Bw.goN (ws' := [(oc7 oM iM_thrown rM_tape iM_taped iM_size x_6301 x_6302 x_6303 x_6304 x_6305 x_6306 x_6307 iM_trouble rM_letters x_6308 iM_hasCourt rM_r rM_fresh rM_told rM_read rM_st rM_undone rM_kept iM_undos iM_images rM_fresher x_6165 iM_scale iM_night rM_heardRow rM_cutRow iM_breaths iM_cutMany iM_allBreaths rM_trial rM_words iM_fewestBreaths iM_orderMany iM_orderSum iM_leastOrder rM_often iM_setMany iM_someOf iM_allOf iM_allWeight iM_enoughWeight iM_worthSum iM_firstRest iM_leastDrawn), (arI rM_tape kM_tape 900 fM_tape), (arI rM_letters kM_letters 8 f_6309), (arI rM_fresh kM_fresh 287 f_6180), (arI rM_read kM_read 90 f_6181), (arI rM_fresher kM_fresher 8 f_6167)]) hB rfl ht hP hD _ hMs hk1 hFc rfl
                        clear hz1 hk1 hvm ht hB hMs
                        rw [← hru9] at e_x_6301_4
                        obtain ⟨x_6310, rfl⟩ : ∃ z, z = r := ⟨_, rfl⟩
                        have hG := hG.trans (un10_eq e_x_6301_4)
                        have lx_6310 := hw.2
                        have kl_1 := kc_1
                        have kl_9 := kc_9
                        clear e_x_6292_1
                        clear e_x_6292_2
                        refine lv_goto (tgt := 130) hx hb dX7_innerLine_126 (by decide) ?_
                        refine lv_istore (lv' := [(6, .int x_6310), (5, .int x_6204), (4, .int z_6170), (3, .int z_6169), (2, .int x_6168), (0, .ref oM), (1, .int p0)]) hx hb dX7_innerLine_130 hl (by decide) rfl (fun ls hl => ?_)
                        refine lv_aload_n hx hb dX7_innerLine_132 rfl (lv_at hl 5 rfl) ?_
                        refine va_get (D := (dC, dI)) (ci := 7) (v := .int x_6308) (C := RX7) (T := TX7) (N := 48) hx hb hts inX7 hown hK hP 0 rfl rfl 13 (by decide) (hts _ wd_380) (fun _ h9 => h9) rfl dX7_innerLine_133 ?_
                        refine lv_if_eq (tgt := 140) hx hb dX7_innerLine_136 (by decide) (fun c_6311 => ?_) (fun c_6311 => ?_)
                        · skip
                          have hG := hG.trans (if_pos c_6311)
                          have gc_6311 := ti_eq c_6311 rfl kc_0
                          exact ((om_2f02dee4 e_x_6289_0 e_x_6301_2 gc_6311)).elim
                        · skip
                          have hG := hG.trans (if_neg c_6311)
                          have gc_6311 := ti_ne c_6311 rfl kc_0
                          replace gc_6311 : (-1) * x_6308.toInt + 1 ≤ 0 := om_e3003f79 gc_6311 b_x_6308.1
                          exact wq_v hx hb hr 0 trivial (fun t ht hW => ⟨x_6301, x_6302, x_6303, x_6304, x_6305, x_6306, x_6307, x_6308, x_6165, f_6309, f_6180, f_6181, f_6167, b_x_6302, b_x_6305, b_x_6308, (om_622f2a87 hi7_n_6182 e_x_6292_0 e_x_6301_0), e_x_6301_1, (om_1fc3dec6 gc_6155 b_x_6308.1), (fun h9 => False.elim (om_a5fe015d gc_6311 h9.1)), hi2_n_6182, hG, Bw.to hP hD hK ht hW⟩) hS dX7_innerLine_139 hlocks
                · skip
                  have hG := hG.trans (if_neg c_6210)
                  have gc_6210 := ti_nle c_6210 rfl rfl
                  refine lv_aload_n hx hb dX7_innerLine_51 rfl (lv_at hl 5 rfl) ?_
                  refine va_get (D := (dC, dI)) (ci := 7) (v := .int z_6206) (C := RX7) (T := TX7) (N := 48) hx hb hts inX7 hown hK hP 0 rfl rfl 13 (by decide) (hts _ wd_380) (fun _ h9 => h9) rfl dX7_innerLine_52 ?_
                  refine lv_if_ne (tgt := 83) hx hb dX7_innerLine_55 (by decide) (fun c_6312 => ?_) (fun c_6312 => ?_)
                  · skip
                    have hG := hG.trans (if_neg c_6312)
                    have gc_6312 := ti_ne c_6312 rfl kc_0
                    replace gc_6312 : (-1) * z_6206.toInt + 1 ≤ 0 := om_e3003f79 gc_6312 b_z_6206.1
                    obtain ⟨x_6313, ex_6313⟩ : ∃ z : Int32, z = z_6205 + Int32.ofInt 1 := ⟨_, rfl⟩
                    have hG := hG.trans (lt_eq ex_6313)
                    have vx_6313 : x_6313.toInt = z_6205.toInt + 1 := ti_add (y := 1) ex_6313 rfl kc_1 (om_4e4fce7e hi0_n_6209.1) (om_d6392c09 hi0_n_6182.2 hi0_n_6209.2)
                    refine lv_iinc (v := x_6313) (lv' := [(6, .int x_6313), (5, .int x_6204), (4, .int z_6170), (3, .int z_6169), (2, .int x_6168), (0, .ref oM), (1, .int p0)]) hx hb dX7_innerLine_83 hl (k := 0) rfl ex_6313.symm (by decide) rfl (fun ls hl => ?_)
                    refine lv_goto (tgt := 45) hx hb dX7_innerLine_86 (by decide) ?_
                    exact ih_n_6209 x_6313 z_6206 z_6207 z_6208 _ _ _ b_z_6206 ⟨(om_83b90de5 hi0_n_6209.1 vx_6313), (om_afcf07ef gc_6210 vx_6313)⟩ hi1_n_6209 (show NeI _ _ _ _ _ from fun h9 i9 hi9 => by by_cases e9 : i9 = z_6205.toNatClampNeg; (rw [e9]; omega); exact hi2_n_6209 (by omega) i9 (by have q1 := ti_cl (x := x_6313) vx_6313 (om_9548a8fd hi0_n_6209.1); have q2 := ti_cl (x := z_6205) rfl hi0_n_6209.1; omega)) (ms_lt hm_n_6209 (om_dd4ae0bc vx_6313) (om_d5382009 gc_6210)) hG hP hD hS (lv_sub hl [0, 1, 2, 3, 4, 5, 6] rfl)
                  · skip
                    have hG := hG.trans (if_pos c_6312)
                    have gc_6312 := ti_eq c_6312 rfl kc_0
                    have h_6314 : 1 ≤ (f_6180 1).toInt := e_x_6201_1 (om_6c480895 hi1_n_6209 gc_6312)
                    clear e_x_6201_1
                    have h_6315 : x_6204.toInt < (f_6180 1).toInt := lx_6204.2.1 h_6314
                    refine lv_aload_n hx hb dX7_innerLine_58 rfl (lv_at hl 5 rfl) ?_
                    refine va_get (D := (dC, dI)) (ci := 7) (v := .ref rM_read) (C := RX7) (T := TX7) (N := 48) hx hb hts inX7 hown hK hP 0 rfl rfl 18 (by decide) (hts _ wd_158) (fun _ h9 => h9) rfl dX7_innerLine_59 ?_
                    refine lv_iconst (v := 4) hx hb dX7_innerLine_62 (by decide) ?_
                    refine lv_iload_n hx hb dX7_innerLine_63 rfl (lv_at hl 4 rfl) ?_
                    refine lv_imul hx hb dX7_innerLine_64 ?_
                    refine lv_topi (fun x_6316 ex_6316 => ?_)
                    have hG := hG.trans (lt_eq ex_6316)
                    have vx_6316 : x_6316.toInt = 4 * x_6168.toInt := ti_mul ex_6316 kc_4 rfl (om_9e6bb6a4 pl_fM_fresh.2.2.2.2.1.1 pl_fM_fresh.2.2.2.2.1.2 cx_6168) (om_7d3cae7d pl_fM_fresh.2.1 pl_fM_fresh.2.2.1.2 pl_fM_fresh.2.2.2.2.2.1.2 cx_6168)
                    refine lv_iload hx hb dX7_innerLine_65 (lv_at hl 0 rfl) ?_
                    refine lv_iadd hx hb dX7_innerLine_67 ?_
                    refine lv_topi (fun x_6317 ex_6317 => ?_)
                    have hG := hG.trans (lt_eq ex_6317)
                    have vx_6317 : x_6317.toInt = 4 * x_6168.toInt + z_6205.toInt := om_5d0caf0f (ti_add ex_6317 vx_6316 rfl (om_80a5d224 pl_fM_fresh.2.2.2.2.1.1 pl_fM_fresh.2.2.2.2.1.2 cx_6168 hi0_n_6209.1) (om_92405955 pl_fM_fresh.2.1 pl_fM_fresh.2.2.1.2 pl_fM_fresh.2.2.2.2.2.1.2 cx_6168 hi0_n_6182.2 hi0_n_6209.2))
                    refine va_iald hx hb hK hP 4 3 rfl rfl (ti_in vx_6317 (om_dcc527d7 pl_fM_fresh.2.2.2.2.1.1 pl_fM_fresh.2.2.2.2.1.2 cx_6168 hi0_n_6209.1) (om_87f3af2a pl_fM_fresh.2.1 pl_fM_fresh.2.2.1.2 pl_fM_fresh.2.2.2.2.2.1.2 cx_6168 hi0_n_6182.2 hi0_n_6209.2)) dX7_innerLine_68 ?_
                    refine lv_topi (fun x_6318 ex_6318 => ?_)
                    have hG := hG.trans (lt_eq ex_6318)
                    have kx_6318 : (f_6181 x_6317.toNatClampNeg).toInt = x_6318.toInt := by rw [ex_6318]
                    have cx_6318 : (f_6181 (4 * x_6168.toNatClampNeg + z_6205.toNatClampNeg)).toInt = x_6318.toInt := by rw [show 4 * x_6168.toNatClampNeg + z_6205.toNatClampNeg = x_6317.toNatClampNeg from (om_4de36627 (ti_cl (x := x_6168) rfl (om_1ab2c227 pl_fM_fresh.2.2.2.2.1.1 pl_fM_fresh.2.2.2.2.1.2 cx_6168)) (ti_cl (x := z_6205) rfl hi0_n_6209.1) (ti_cl (x := x_6317) vx_6317 (om_dcc527d7 pl_fM_fresh.2.2.2.2.1.1 pl_fM_fresh.2.2.2.2.1.2 cx_6168 hi0_n_6209.1)))]; exact kx_6318
                    refine lv_iload hx hb dX7_innerLine_69 (lv_at hl 1 rfl) ?_
                    refine lv_icmp_ne (tgt := 83) hx hb dX7_innerLine_71 (by decide) (fun c_6319 => ?_) (fun c_6319 => ?_)
                    · skip
                      have hG := hG.trans (if_neg c_6319)
                      have gc_6319 := ti_ne c_6319 rfl rfl
                      obtain ⟨x_6320, ex_6320⟩ : ∃ z : Int32, z = z_6205 + Int32.ofInt 1 := ⟨_, rfl⟩
                      have hG := hG.trans (lt_eq ex_6320)
                      have vx_6320 : x_6320.toInt = z_6205.toInt + 1 := ti_add (y := 1) ex_6320 rfl kc_1 (om_4e4fce7e hi0_n_6209.1) (om_d6392c09 hi0_n_6182.2 hi0_n_6209.2)
                      refine lv_iinc (v := x_6320) (lv' := [(6, .int x_6320), (5, .int x_6204), (4, .int z_6170), (3, .int z_6169), (2, .int x_6168), (0, .ref oM), (1, .int p0)]) hx hb dX7_innerLine_83 hl (k := 0) rfl ex_6320.symm (by decide) rfl (fun ls hl => ?_)
                      refine lv_goto (tgt := 45) hx hb dX7_innerLine_86 (by decide) ?_
                      exact ih_n_6209 x_6320 z_6206 z_6207 z_6208 _ _ _ b_z_6206 ⟨(om_83b90de5 hi0_n_6209.1 vx_6320), (om_afcf07ef gc_6210 vx_6320)⟩ hi1_n_6209 (show NeI _ _ _ _ _ from fun h9 i9 hi9 => by by_cases e9 : i9 = z_6205.toNatClampNeg; (rw [e9]; omega); exact hi2_n_6209 (by omega) i9 (by have q1 := ti_cl (x := x_6320) vx_6320 (om_9548a8fd hi0_n_6209.1); have q2 := ti_cl (x := z_6205) rfl hi0_n_6209.1; omega)) (ms_lt hm_n_6209 (om_dd4ae0bc vx_6320) (om_d5382009 gc_6210)) hG hP hD hS (lv_sub hl [0, 1, 2, 3, 4, 5, 6] rfl)
                    · skip
                      have hG := hG.trans (if_pos c_6319)
                      have gc_6319 := ti_eq c_6319 rfl rfl
                      refine lv_aload_n hx hb dX7_innerLine_74 rfl (lv_at hl 5 rfl) ?_
                      refine lv_iconst (v := 3) hx hb dX7_innerLine_75 (by decide) ?_
                      refine lv_aload_n hx hb dX7_innerLine_76 rfl (lv_at hl 5 rfl) ?_
                      refine va_get (D := (dC, dI)) (ci := 7) (v := .int z_6171) (C := RX7) (T := TX7) (N := 48) hx hb hts inX7 hown hK hP 0 rfl rfl 4 (by decide) (hts _ wd_384) (fun _ h9 => h9) rfl dX7_innerLine_77 ?_
                      have hMs := ml_of hD [true, false, false, false, false, false] (wc := [(oc7 oM iM_thrown rM_tape iM_taped iM_size z_6171 z_6172 z_6173 z_6174 z_6175 z_6207 z_6208 iM_trouble rM_letters z_6206 iM_hasCourt rM_r rM_fresh rM_told rM_read rM_st rM_undone rM_kept iM_undos iM_images rM_fresher x_6165 iM_scale iM_night rM_heardRow rM_cutRow iM_breaths iM_cutMany iM_allBreaths rM_trial rM_words iM_fewestBreaths iM_orderMany iM_orderSum iM_leastOrder rM_often iM_setMany iM_someOf iM_allOf iM_allWeight iM_enoughWeight iM_worthSum iM_firstRest iM_leastDrawn)]) rfl
                      have hFc := va_freeM hD hS hA _ hMs
                      refine va_callv (va_runV (As := [.int 3, .int z_6171]) (rest := []) ⟨hx, hb, hml, hown, hts⟩ (tX7_wrong l dC dI _ oM iM_thrown rM_tape iM_taped iM_size z_6171 z_6172 z_6173 z_6174 z_6175 z_6207 z_6208 iM_trouble rM_letters z_6206 iM_hasCourt rM_r rM_fresh rM_told rM_read rM_st rM_undone rM_kept iM_undos iM_images rM_fresher x_6165 iM_scale iM_night rM_heardRow rM_cutRow iM_breaths iM_cutMany iM_allBreaths rM_trial rM_words iM_fewestBreaths iM_orderMany iM_orderSum iM_leastOrder rM_often iM_setMany iM_someOf iM_allOf iM_allWeight iM_enoughWeight iM_worthSum iM_firstRest iM_leastDrawn 3 z_6171 b_iM_taped b_iM_size b_z_6172 b_z_6175 b_z_6206 b_iM_hasCourt b_iM_undos b_iM_images b_iM_scale b_iM_breaths b_iM_cutMany hi6_n_6182) (cwV 2 hts (wd_V wd_430 wd_431 wd_432 wd_5 (wd_c wd_433)) rfl rfl rfl dv_yX7_wrong_2 ⟨Nat.le_of_ble_eq_true rfl, Nat.le_of_ble_eq_true rfl⟩) ⟨Pw.fb, recvX7 hK hP (q0 := 0) rfl, fun U hU hW => Pw.to (hP.ms _ hMs) (hD.ms _ hMs) (hK.ms [false, false, false, false, false] rfl) hE hS hFc hU hW⟩ rfl rfl hl.1 rfl (lv_room (Nat.le_of_ble_eq_true rfl)) dX7_innerLine_80 ⟨Nat.le_of_ble_eq_true rfl, Nat.le_of_ble_eq_true rfl⟩) hS (fun q _ h => hFc q h) hFc (fun u t H locs ht hvm hw hB hz1 hk1 hS => ?_)
                      refine ex_3_3 hB (fun x_6321 x_6322 x_6323 b_x_6323 e_x_6321_0 e_x_6321_1 hB => ?_)
                      obtain ⟨hP, hD⟩ := Bw.goN (ws' := [(oc7 oM iM_thrown rM_tape iM_taped iM_size z_6171 z_6172 z_6173 z_6174 z_6175 x_6321 x_6322 iM_trouble rM_letters x_6323 iM_hasCourt rM_r rM_fresh rM_told rM_read rM_st rM_undone rM_kept iM_undos iM_images rM_fresher x_6165 iM_scale iM_night rM_heardRow rM_cutRow iM_breaths iM_cutMany iM_allBreaths rM_trial rM_words iM_fewestBreaths iM_orderMany iM_orderSum iM_leastOrder rM_often iM_setMany iM_someOf iM_allOf iM_allWeight iM_enoughWeight iM_worthSum iM_firstRest iM_leastDrawn), (arI rM_tape kM_tape 900 fM_tape), (arI rM_letters kM_letters 8 f_6179), (arI rM_fresh kM_fresh 287 f_6180), (arI rM_read kM_read 90 f_6181), (arI rM_fresher kM_fresher 8 f_6167)]) hB rfl ht hP hD _ hMs hk1 hFc rfl
                      clear hz1 hk1 hvm ht hB hMs
                      have hG := hG.trans (un3_eq e_x_6321_1)
                      obtain ⟨x_6324, ex_6324⟩ : ∃ z : Int32, z = z_6205 + Int32.ofInt 1 := ⟨_, rfl⟩
                      have hG := hG.trans (lt_eq ex_6324)
                      have vx_6324 : x_6324.toInt = z_6205.toInt + 1 := ti_add (y := 1) ex_6324 rfl kc_1 (om_4e4fce7e hi0_n_6209.1) (om_d6392c09 hi0_n_6182.2 hi0_n_6209.2)
                      refine lv_iinc (v := x_6324) (lv' := [(6, .int x_6324), (5, .int x_6204), (4, .int z_6170), (3, .int z_6169), (2, .int x_6168), (0, .ref oM), (1, .int p0)]) hx hb dX7_innerLine_83 hl (k := 0) rfl ex_6324.symm (by decide) rfl (fun ls hl => ?_)
                      refine lv_goto (tgt := 45) hx hb dX7_innerLine_86 (by decide) ?_
                      exact ih_n_6209 x_6324 x_6323 x_6321 x_6322 _ _ _ b_x_6323 ⟨(om_83b90de5 hi0_n_6209.1 vx_6324), (om_afcf07ef gc_6210 vx_6324)⟩ (om_00f1c5dd b_x_6203.2 e_x_6321_0) (show NeI _ _ _ _ _ from fun h9 i9 hi9 => by by_cases e9 : i9 = z_6205.toNatClampNeg; (rw [e9]; omega); exact hi2_n_6209 (by omega) i9 (by have q1 := ti_cl (x := x_6324) vx_6324 (om_9548a8fd hi0_n_6209.1); have q2 := ti_cl (x := z_6205) rfl hi0_n_6209.1; omega)) (ms_lt hm_n_6209 (om_dd4ae0bc vx_6324) (om_d5382009 gc_6210)) hG hP hD hS (lv_sub hl [0, 1, 2, 3, 4, 5, 6] rfl)
            exact key_n_6209 (((z_6169.toInt - (0 : Int32).toInt).toNat) + 1) 0 x_6203 x_6201 x_6202 _ _ _ b_x_6203 ⟨(om_b1de7dbe kc_0), (om_2dfe280d hi0_n_6182.1 kc_0)⟩ om_1cb5f934 (show NeI _ _ _ _ _ from fun _ i9 hi9 => absurd hi9 (Nat.not_lt_zero i9)) (Nat.lt_add_one _) hG hP hD hS hl
    exact key_n_6182 (((4 - (0 : Int32).toInt).toNat) + 1) 0 1 x_6157 x_6158 x_6159 x_6160 x_6161 x_6162 x_6163 x_6164 f_6166 fM_fresh fM_read _ _ _ b_x_6158 b_x_6161 b_x_6164 ⟨(om_b1de7dbe kc_0), (om_bebe011a kc_0)⟩ ⟨(om_1b364b1c kc_1), (om_02032f93 kc_1)⟩ (by assumption) in_zero ⟨rfl, rfl, rfl⟩ (fun h9 => by have q0 := kc_0; have q1 := kc_1; omega) e_x_6157_1 e_x_6157_0 (fun h9 => by have q0 := kc_0; have q1 := kc_1; have q9 := e_x_6157_3 (by omega); omega) (Nat.lt_add_one _) hG hP hD hS hl
  · skip
    have hG := hG.trans (if_neg c_6155)
    have gc_6155 := ti_ne c_6155 rfl kc_0
    replace gc_6155 : (-1) * iM_failed.toInt + 1 ≤ 0 := om_e3003f79 gc_6155 b_iM_failed.1
    clear hil
    clear hic
    exact wq_v hx hb hr 0 trivial (fun t ht hW => ⟨iM_at, iM_end, iM_token, iM_whole, iM_nameSize, iM_fault, iM_place, iM_failed, iM_fresherSize, fM_letters, fM_fresh, fM_read, fM_fresher, ⟨b_iM_end.1, b_iM_end.2⟩, ⟨b_iM_nameSize.1, b_iM_nameSize.2⟩, ⟨b_iM_failed.1, b_iM_failed.2⟩, om_1cb5f934, r_T, om_1cb5f934, (fun h9 => False.elim (om_a5fe015d gc_6155 h9.1)), r_P, hG, Bw.to hP hD hK ht hW⟩) hS dX7_innerLine_7 hlocks
