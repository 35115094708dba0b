set_option maxHeartbeats 4000000 in
set_option maxRecDepth 100000 in
theorem tX7_innerLine (l : Launch) (dC : Nat → ClassId) (dI : Nat → Nat → Nat) (sz : Nat) (oM : Nat) (iM_thrown : Int32) (rM_tape : Nat) (fM_tape : Nat → Int32) (kM_tape : ClassId) (iM_taped : Int32) (iM_size : Int32) (iM_at : Int32) (iM_end : Int32) (iM_token : Int32) (iM_whole : Int32) (iM_nameSize : Int32) (iM_fault : Int32) (iM_place : Int32) (iM_trouble : Int32) (rM_letters : Nat) (fM_letters : Nat → Int32) (kM_letters : ClassId) (iM_failed : Int32) (iM_hasCourt : Int32) (rM_r : Nat) (rM_fresh : Nat) (fM_fresh : Nat → Int32) (kM_fresh : ClassId) (rM_told : Nat) (rM_read : Nat) (fM_read : Nat → Int32) (kM_read : ClassId) (rM_st : Nat) (rM_undone : Nat) (rM_kept : Nat) (iM_undos : Int32) (iM_images : Int32) (rM_fresher : Nat) (fM_fresher : Nat → Int32) (kM_fresher : ClassId) (iM_fresherSize : Int32) (iM_scale : Int32) (iM_night : Int32) (rM_heardRow : Nat) (rM_cutRow : Nat) (iM_breaths : Int32) (iM_cutMany : Int32) (iM_allBreaths : Int32) (rM_trial : Nat) (rM_words : Nat) (iM_fewestBreaths : Int32) (iM_orderMany : Int32) (iM_orderSum : Int32) (iM_leastOrder : Int32) (rM_often : Nat) (iM_setMany : Int32) (iM_someOf : Int32) (iM_allOf : Int32) (iM_allWeight : Int64) (iM_enoughWeight : Int64) (iM_worthSum : Int64) (iM_firstRest : Int32) (iM_leastDrawn : Int32) (p0 : Int32) (b_iM_taped : 0 ≤ iM_taped.toInt ∧ iM_taped.toInt ≤ 900) (b_iM_size : 0 ≤ iM_size.toInt ∧ iM_size.toInt ≤ 900) (b_iM_end : 0 ≤ iM_end.toInt ∧ iM_end.toInt ≤ 900) (b_iM_nameSize : 0 ≤ iM_nameSize.toInt ∧ iM_nameSize.toInt ≤ 900) (b_iM_failed : 0 ≤ iM_failed.toInt ∧ iM_failed.toInt ≤ 1) (b_iM_hasCourt : 0 ≤ iM_hasCourt.toInt ∧ iM_hasCourt.toInt ≤ 1) (b_iM_undos : 0 ≤ iM_undos.toInt ∧ iM_undos.toInt ≤ 16) (b_iM_images : 0 ≤ iM_images.toInt ∧ iM_images.toInt ≤ 3) (b_iM_scale : 1 ≤ iM_scale.toInt ∧ iM_scale.toInt ≤ 1296) (b_iM_breaths : 0 ≤ iM_breaths.toInt ∧ iM_breaths.toInt ≤ 399) (b_iM_cutMany : 0 ≤ iM_cutMany.toInt ∧ iM_cutMany.toInt ≤ 399) (r_T : ImpP (iM_token.toInt = 2) (iM_nameSize.toInt ≤ 8)) (r_P : POk fM_fresh fM_read) (hp0 : 1 ≤ p0.toInt ∧ p0.toInt ≤ 3) (hil : ImpP (iM_failed.toInt ≤ 0) ((fM_fresh 7).toInt ≤ 7)) (hic : ImpP (iM_failed.toInt ≤ 0 ∧ p0.toInt = 3) ((fM_fresh 8).toInt ≤ 1)) : Met l yX7_innerLine (Cond.code yX7_innerLine cX7_innerLine 7 none :: wG) ({ frames := 7, cells := 0, slots := 0, locals := 175 }) (va_Pc [.ref oM, .int p0] (Pw dC dI sz [(oc7 oM iM_thrown rM_tape iM_taped iM_size iM_at iM_end iM_token iM_whole iM_nameSize iM_fault iM_place iM_trouble rM_letters iM_failed iM_hasCourt rM_r rM_fresh rM_told rM_read rM_st rM_undone rM_kept iM_undos iM_images rM_fresher iM_fresherSize iM_scale iM_night rM_heardRow rM_cutRow iM_breaths iM_cutMany iM_allBreaths rM_trial rM_words iM_fewestBreaths iM_orderMany iM_orderSum iM_leastOrder rM_often iM_setMany iM_someOf iM_allOf iM_allWeight iM_enoughWeight iM_worthSum iM_firstRest iM_leastDrawn), (arI rM_tape kM_tape 900 fM_tape), (arI rM_letters kM_letters 8 fM_letters), (arI rM_fresh kM_fresh 287 fM_fresh), (arI rM_read kM_read 90 fM_read), (arI rM_fresher kM_fresher 8 fM_fresher)] [(kM_tape, .int), (kM_letters, .int), (kM_fresh, .int), (kM_read, .int), (kM_fresher, .int)])) (va_Qv (fun (_ : Nat) => True) (fun (_ : Nat) (t : State) => ∃ (niM_at : Int32) (niM_end : Int32) (niM_token : Int32) (niM_whole : Int32) (niM_nameSize : Int32) (niM_fault : Int32) (niM_place : Int32) (niM_failed : Int32) (niM_fresherSize : Int32) (nfM_letters : Nat → Int32) (nfM_fresh : Nat → Int32) (nfM_read : Nat → Int32) (nfM_fresher : Nat → Int32), (0 ≤ niM_end.toInt ∧ niM_end.toInt ≤ 900) ∧ (0 ≤ niM_nameSize.toInt ∧ niM_nameSize.toInt ≤ 900) ∧ (0 ≤ niM_failed.toInt ∧ niM_failed.toInt ≤ 1) ∧ (iM_end.toInt ≤ niM_end.toInt) ∧ (ImpP (niM_token.toInt = 2) (niM_nameSize.toInt ≤ 8)) ∧ (iM_failed.toInt ≤ niM_failed.toInt) ∧ (ImpP (niM_failed.toInt ≤ 0 ∧ niM_token.toInt = 59 ) (iM_end.toInt + 1 ≤ niM_end.toInt)) ∧ (POk nfM_fresh nfM_read) ∧ (PX7_innerLine fM_tape iM_size iM_at iM_end iM_token iM_whole iM_nameSize iM_fault iM_place fM_letters iM_failed fM_fresh fM_read fM_fresher iM_fresherSize p0 = (niM_at, niM_end, niM_token, niM_whole, niM_nameSize, niM_fault, niM_place, niM_failed, niM_fresherSize, nfM_letters, nfM_fresh, nfM_read, nfM_fresher)) ∧ Bw dC dI (va_A [(oc7 oM iM_thrown rM_tape iM_taped iM_size iM_at iM_end iM_token iM_whole iM_nameSize iM_fault iM_place iM_trouble rM_letters iM_failed iM_hasCourt rM_r rM_fresh rM_told rM_read rM_st rM_undone rM_kept iM_undos iM_images rM_fresher iM_fresherSize iM_scale iM_night rM_heardRow rM_cutRow iM_breaths iM_cutMany iM_allBreaths rM_trial rM_words iM_fewestBreaths iM_orderMany iM_orderSum iM_leastOrder rM_often iM_setMany iM_someOf iM_allOf iM_allWeight iM_enoughWeight iM_worthSum iM_firstRest iM_leastDrawn), (arI rM_tape kM_tape 900 fM_tape), (arI rM_letters kM_letters 8 fM_letters), (arI rM_fresh kM_fresh 287 fM_fresh), (arI rM_read kM_read 90 fM_read), (arI rM_fresher kM_fresher 8 fM_fresher)] sz) [(oc7 oM iM_thrown rM_tape iM_taped iM_size niM_at niM_end niM_token niM_whole niM_nameSize niM_fault niM_place iM_trouble rM_letters niM_failed iM_hasCourt rM_r rM_fresh rM_told rM_read rM_st rM_undone rM_kept iM_undos iM_images rM_fresher niM_fresherSize iM_scale iM_night rM_heardRow rM_cutRow iM_breaths iM_cutMany iM_allBreaths rM_trial rM_words iM_fewestBreaths iM_orderMany iM_orderSum iM_leastOrder rM_often iM_setMany iM_someOf iM_allOf iM_allWeight iM_enoughWeight iM_worthSum iM_firstRest iM_leastDrawn), (arI rM_tape kM_tape 900 fM_tape), (arI rM_letters kM_letters 8 nfM_letters), (arI rM_fresh kM_fresh 287 nfM_fresh), (arI rM_read kM_read 90 nfM_read), (arI rM_fresher kM_fresher 8 nfM_fresher)] [(kM_tape, .int), (kM_letters, .int), (kM_fresh, .int), (kM_read, .int), (kM_fresher, .int)] t) (va_A [(oc7 oM iM_thrown rM_tape iM_taped iM_size iM_at iM_end iM_token iM_whole iM_nameSize iM_fault iM_place iM_trouble rM_letters iM_failed iM_hasCourt rM_r rM_fresh rM_told rM_read rM_st rM_undone rM_kept iM_undos iM_images rM_fresher iM_fresherSize iM_scale iM_night rM_heardRow rM_cutRow iM_breaths iM_cutMany iM_allBreaths rM_trial rM_words iM_fewestBreaths iM_orderMany iM_orderSum iM_leastOrder rM_often iM_setMany iM_someOf iM_allOf iM_allWeight iM_enoughWeight iM_worthSum iM_firstRest iM_leastDrawn), (arI rM_tape kM_tape 900 fM_tape), (arI rM_letters kM_letters 8 fM_letters), (arI rM_fresh kM_fresh 287 fM_fresh), (arI rM_read kM_read 90 fM_read), (arI rM_fresher kM_fresher 8 fM_fresher)] sz)) 0 0 (va_A [(oc7 oM iM_thrown rM_tape iM_taped iM_size iM_at iM_end iM_token iM_whole iM_nameSize iM_fault iM_place iM_trouble rM_letters iM_failed iM_hasCourt rM_r rM_fresh rM_told rM_read rM_st rM_undone rM_kept iM_undos iM_images rM_fresher iM_fresherSize iM_scale iM_night rM_heardRow rM_cutRow iM_breaths iM_cutMany iM_allBreaths rM_trial rM_words iM_fewestBreaths iM_orderMany iM_orderSum iM_leastOrder rM_often iM_setMany iM_someOf iM_allOf iM_allWeight iM_enoughWeight iM_worthSum iM_firstRest iM_leastDrawn), (arI rM_tape kM_tape 900 fM_tape), (arI rM_letters kM_letters 8 fM_letters), (arI rM_fresh kM_fresh 287 fM_fresh), (arI rM_read kM_read 90 fM_read), (arI rM_fresher kM_fresher 8 fM_fresher)] sz) := by
  refine Met.ofW (cc := cX7_innerLine) (maxL := 7) (ret := none) pnX7 rfl ?_
  intro p e s m args below meth c s₁ B hml hv
  obtain ⟨rfl, hsz, hP, hK, hD0, hE⟩ := hv
  have hx := B.exec
  have hb := B.bytes
  have hr := B.returns
  have hts : ∀ w ∈ wG, w.before ([.ref oM, .int p0] : List Value).toArray s = true := fun w h => atoms_spec (ws := Cond.code yX7_innerLine cX7_innerLine 7 none :: wG) B.pre w (List.mem_cons_of_mem _ h)
  have hown : s.vm.findClass RX7 = some m.cls := own_of B.named rfl
  have hlocks := B.notSynchronized
  subst hsz
  have hD := hD0.self (sz := s.heap.size)
  generalize hAe : va_A [(oc7 oM iM_thrown rM_tape iM_taped iM_size iM_at iM_end iM_token iM_whole iM_nameSize iM_fault iM_place iM_trouble rM_letters iM_failed iM_hasCourt rM_r rM_fresh rM_told rM_read rM_st rM_undone rM_kept iM_undos iM_images rM_fresher iM_fresherSize iM_scale iM_night rM_heardRow rM_cutRow iM_breaths iM_cutMany iM_allBreaths rM_trial rM_words iM_fewestBreaths iM_orderMany iM_orderSum iM_leastOrder rM_often iM_setMany iM_someOf iM_allOf iM_allWeight iM_enoughWeight iM_worthSum iM_firstRest iM_leastDrawn), (arI rM_tape kM_tape 900 fM_tape), (arI rM_letters kM_letters 8 fM_letters), (arI rM_fresh kM_fresh 287 fM_fresh), (arI rM_read kM_read 90 fM_read), (arI rM_fresher kM_fresher 8 fM_fresher)] s.heap.size = A at hD hE ⊢
  have hA : ∀ q : Nat, s.heap.size ≤ q → A q := fun q h => by rw [← hAe]; exact Or.inr h
  have hS : va_S A s.heap s.heap [] := va_S.rf
  have hl := lv_entry ([.ref oM, .int p0]) (n := 7) (Nat.le_of_ble_eq_true rfl)
  rw [lg_entry_eq]
  generalize (lg_sl ([.ref oM, .int p0]) ++ List.replicate (7 - (lg_sl ([.ref oM, .int p0])).length) Slot.unset).toArray = ls at hl ⊢
  have hl : lv_has ls 7 [(0, .ref oM), (1, .int p0)] := hl
  have hG := PX7_innerLine_eq fM_tape iM_size iM_at iM_end iM_token iM_whole iM_nameSize iM_fault iM_place fM_letters iM_failed fM_fresh fM_read fM_fresher iM_fresherSize p0
  have pl_fM_fresh := r_P.lins
  refine lv_aload_n hx hb dX7_innerLine_0 rfl (lv_at hl 0 rfl) ?_
  refine va_get (D := (dC, dI)) (ci := 7) (v := .int iM_failed) (C := RX7) (T := TX7) (N := 48) hx hb hts inX7 hown hK hP 0 rfl rfl 13 (by decide) (hts _ wd_380) (fun _ h9 => h9) rfl dX7_innerLine_1 ?_
  refine lv_if_eq (tgt := 8) hx hb dX7_innerLine_4 (by decide) (fun c_6165 => ?_) (fun c_6165 => ?_)
  · skip
    have hG := hG.trans (if_pos c_6165)
    have gc_6165 := ti_eq c_6165 rfl kc_0
    have h_6166 : (fM_fresh 7).toInt ≤ 7 := hil (om_02e9bb08 gc_6165)
    clear hil
    refine lv_aload_n hx hb dX7_innerLine_8 rfl (lv_at hl 0 rfl) ?_
    have hFc := va_freeI hD hS hA
    refine va_callv (va_runV (As := []) (rest := []) ⟨hx, hb, hml, hown, hts⟩ (tX7_newName l dC dI _ oM iM_thrown rM_tape fM_tape kM_tape iM_taped iM_size iM_at iM_end iM_token iM_whole iM_nameSize iM_fault iM_place iM_trouble rM_letters fM_letters kM_letters iM_failed iM_hasCourt rM_r rM_fresh fM_fresh kM_fresh rM_told rM_read fM_read kM_read rM_st rM_undone rM_kept iM_undos iM_images rM_fresher fM_fresher kM_fresher iM_fresherSize iM_scale iM_night rM_heardRow rM_cutRow iM_breaths iM_cutMany iM_allBreaths rM_trial rM_words iM_fewestBreaths iM_orderMany iM_orderSum iM_leastOrder rM_often iM_setMany iM_someOf iM_allOf iM_allWeight iM_enoughWeight iM_worthSum iM_firstRest iM_leastDrawn b_iM_taped b_iM_size b_iM_end b_iM_nameSize b_iM_failed b_iM_hasCourt b_iM_undos b_iM_images b_iM_scale b_iM_breaths b_iM_cutMany r_T r_P) (cwV 0 hts (wd_V wd_462 wd_463 wd_464 wd_5 (wd_c wd_465)) rfl rfl rfl dv_yX7_newName_0 ⟨Nat.le_of_ble_eq_true rfl, Nat.le_of_ble_eq_true rfl⟩) ⟨Pw.fb, recvX7 hK hP (q0 := 0) rfl, fun U hU hW => Pw.to hP hD hK hE hS hFc hU hW⟩ rfl rfl hl.1 rfl (lv_room (Nat.le_of_ble_eq_true rfl)) dX7_innerLine_9 ⟨Nat.le_of_ble_eq_true rfl, Nat.le_of_ble_eq_true rfl⟩) hS (fun q _ h => hFc q h) hFc (fun u t H locs ht hvm hw hB hz1 hk1 hS => ?_)
    refine ex_11_8 hB (fun x_6167 x_6168 x_6169 x_6170 x_6171 x_6172 x_6173 x_6174 x_6175 f_6176 f_6177 b_x_6168 b_x_6171 b_x_6174 e_x_6167_0 e_x_6167_1 e_x_6167_2 e_x_6167_3 e_x_6167_4 hB => ?_)
    obtain ⟨hP, hD⟩ := Bw.goA (ws' := [(oc7 oM iM_thrown rM_tape iM_taped iM_size x_6167 x_6168 x_6169 x_6170 x_6171 x_6172 x_6173 iM_trouble rM_letters x_6174 iM_hasCourt rM_r rM_fresh rM_told rM_read rM_st rM_undone rM_kept iM_undos iM_images rM_fresher x_6175 iM_scale iM_night rM_heardRow rM_cutRow iM_breaths iM_cutMany iM_allBreaths rM_trial rM_words iM_fewestBreaths iM_orderMany iM_orderSum iM_leastOrder rM_often iM_setMany iM_someOf iM_allOf iM_allWeight iM_enoughWeight iM_worthSum iM_firstRest iM_leastDrawn), (arI rM_tape kM_tape 900 fM_tape), (arI rM_letters kM_letters 8 f_6176), (arI rM_fresh kM_fresh 287 fM_fresh), (arI rM_read kM_read 90 fM_read), (arI rM_fresher kM_fresher 8 f_6177)]) hB rfl ht hFc rfl
    clear hz1 hk1 hvm ht hB
    have hG := hG.trans (un11_eq e_x_6167_4)
    clear r_T
    refine lv_aload_n hx hb dX7_innerLine_12 rfl (lv_at hl 0 rfl) ?_
    refine va_get (D := (dC, dI)) (ci := 7) (v := .ref rM_fresh) (C := RX7) (T := TX7) (N := 48) hx hb hts inX7 hown hK hP 0 rfl rfl 16 (by decide) (hts _ wd_156) (fun _ h9 => h9) rfl dX7_innerLine_13 ?_
    refine lv_iconst (v := 1) hx hb dX7_innerLine_16 (by decide) ?_
    refine va_iald hx hb hK hP 3 2 rfl rfl (by unfold vp_in; decide) dX7_innerLine_17 ?_
    refine lv_topi (fun x_6178 ex_6178 => ?_)
    have hG := hG.trans (lt_eq ex_6178)
    have cx_6178 : (fM_fresh 1).toInt = x_6178.toInt := congrArg Int32.toInt (show fM_fresh 1 = x_6178 from ex_6178.symm)
    refine lv_istore_n (lv' := [(2, .int x_6178), (0, .ref oM), (1, .int p0)]) hx hb dX7_innerLine_18 rfl hl (by decide) rfl (fun ls hl => ?_)
    refine lv_iconst (v := 0) hx hb dX7_innerLine_19 (by decide) ?_
    refine lv_istore_n (lv' := [(3, .int 0), (2, .int x_6178), (0, .ref oM), (1, .int p0)]) hx hb dX7_innerLine_20 rfl hl (by decide) rfl (fun ls hl => ?_)
    refine lv_iconst (v := 1) hx hb dX7_innerLine_21 (by decide) ?_
    refine lv_istore (lv' := [(4, .int 1), (3, .int 0), (2, .int x_6178), (0, .ref oM), (1, .int p0)]) hx hb dX7_innerLine_22 hl (by decide) rfl (fun ls hl => ?_)
    have hl := lv_sub hl (l' := [(4, .int 1), (3, .int 0), (2, .int x_6178), (0, .ref oM), (1, .int p0)]) [0, 1, 2, 3, 4] rfl
    have key_n_6192 : ∀ (n_6192 : Nat) (z_6179 : Int32) (z_6180 : Int32) (z_6181 : Int32) (z_6182 : Int32) (z_6183 : Int32) (z_6184 : Int32) (z_6185 : Int32) (z_6186 : Int32) (z_6187 : Int32) (z_6188 : Int32) (f_6189 : Nat → Int32) (f_6190 : Nat → Int32) (f_6191 : Nat → Int32) (H : Heap) (locs : List Loc) (ls : Array Slot), (0 ≤ z_6182.toInt ∧ z_6182.toInt ≤ 900) → (0 ≤ z_6185.toInt ∧ z_6185.toInt ≤ 900) → (0 ≤ z_6188.toInt ∧ z_6188.toInt ≤ 1) → (0 ≤ z_6179.toInt ∧ z_6179.toInt ≤ 4) → (0 ≤ z_6180.toInt ∧ z_6180.toInt ≤ 1) → (POk f_6190 f_6191) → (InOk f_6190 f_6191 (f_6190 1).toNatClampNeg z_6179.toNatClampNeg p0.toInt) → ((f_6190 1).toInt = (fM_fresh 1).toInt ∧ (f_6190 7).toInt = (fM_fresh 7).toInt ∧ (f_6190 8).toInt = (fM_fresh 8).toInt) → (ImpP (z_6180.toInt ≤ 0) (1 ≤ z_6179.toInt)) → (ImpP (z_6183.toInt = 2) (z_6185.toInt ≤ 8)) → (iM_end.toInt ≤ z_6182.toInt) → (ImpP (z_6188.toInt ≤ 0 ∧ z_6183.toInt = 59 ) (iM_end.toInt + 1 ≤ z_6182.toInt)) → (4 - z_6179.toInt).toNat < n_6192 → (PX7_innerLine fM_tape iM_size iM_at iM_end iM_token iM_whole iM_nameSize iM_fault iM_place fM_letters iM_failed fM_fresh fM_read fM_fresher iM_fresherSize p0 = HX7_innerLine_0 fM_tape iM_size p0 x_6175 f_6177 x_6178 n_6192 z_6179 z_6180 z_6181 z_6182 z_6183 z_6184 z_6185 z_6186 z_6187 z_6188 f_6189 f_6190 f_6191) → va_P (dC, dI) vwCl [(oc7 oM iM_thrown rM_tape iM_taped iM_size z_6181 z_6182 z_6183 z_6184 z_6185 z_6186 z_6187 iM_trouble rM_letters z_6188 iM_hasCourt rM_r rM_fresh rM_told rM_read rM_st rM_undone rM_kept iM_undos iM_images rM_fresher x_6175 iM_scale iM_night rM_heardRow rM_cutRow iM_breaths iM_cutMany iM_allBreaths rM_trial rM_words iM_fewestBreaths iM_orderMany iM_orderSum iM_leastOrder rM_often iM_setMany iM_someOf iM_allOf iM_allWeight iM_enoughWeight iM_worthSum iM_firstRest iM_leastDrawn), (arI rM_tape kM_tape 900 fM_tape), (arI rM_letters kM_letters 8 f_6189), (arI rM_fresh kM_fresh 287 f_6190), (arI rM_read kM_read 90 f_6191), (arI rM_fresher kM_fresher 8 f_6177)] H → va_D A [(oc7 oM iM_thrown rM_tape iM_taped iM_size z_6181 z_6182 z_6183 z_6184 z_6185 z_6186 z_6187 iM_trouble rM_letters z_6188 iM_hasCourt rM_r rM_fresh rM_told rM_read rM_st rM_undone rM_kept iM_undos iM_images rM_fresher x_6175 iM_scale iM_night rM_heardRow rM_cutRow iM_breaths iM_cutMany iM_allBreaths rM_trial rM_words iM_fewestBreaths iM_orderMany iM_orderSum iM_leastOrder rM_often iM_setMany iM_someOf iM_allOf iM_allWeight iM_enoughWeight iM_worthSum iM_firstRest iM_leastDrawn), (arI rM_tape kM_tape 900 fM_tape), (arI rM_letters kM_letters 8 f_6189), (arI rM_fresh kM_fresh 287 f_6190), (arI rM_read kM_read 90 f_6191), (arI rM_fresher kM_fresher 8 f_6177)] → va_S A s.heap H locs → lv_has ls 7 [(4, .int z_6180), (3, .int z_6179), (2, .int x_6178), (0, .ref oM), (1, .int p0)] → W p l e (headSpec (Cond.code yX7_innerLine cX7_innerLine 7 none :: wG) ({ frames := 7, cells := 0, slots := 0, locals := 175 })).room s m ([.ref oM, .int p0] : List Value).toArray below meth c H locs 0 0 (MQ below (va_Qv (fun (_ : Nat) => True) (fun (_ : Nat) (t : State) => ∃ (niM_at : Int32) (niM_end : Int32) (niM_token : Int32) (niM_whole : Int32) (niM_nameSize : Int32) (niM_fault : Int32) (niM_place : Int32) (niM_failed : Int32) (niM_fresherSize : Int32) (nfM_letters : Nat → Int32) (nfM_fresh : Nat → Int32) (nfM_read : Nat → Int32) (nfM_fresher : Nat → Int32), (0 ≤ niM_end.toInt ∧ niM_end.toInt ≤ 900) ∧ (0 ≤ niM_nameSize.toInt ∧ niM_nameSize.toInt ≤ 900) ∧ (0 ≤ niM_failed.toInt ∧ niM_failed.toInt ≤ 1) ∧ (iM_end.toInt ≤ niM_end.toInt) ∧ (ImpP (niM_token.toInt = 2) (niM_nameSize.toInt ≤ 8)) ∧ (iM_failed.toInt ≤ niM_failed.toInt) ∧ (ImpP (niM_failed.toInt ≤ 0 ∧ niM_token.toInt = 59 ) (iM_end.toInt + 1 ≤ niM_end.toInt)) ∧ (POk nfM_fresh nfM_read) ∧ (PX7_innerLine fM_tape iM_size iM_at iM_end iM_token iM_whole iM_nameSize iM_fault iM_place fM_letters iM_failed fM_fresh fM_read fM_fresher iM_fresherSize p0 = (niM_at, niM_end, niM_token, niM_whole, niM_nameSize, niM_fault, niM_place, niM_failed, niM_fresherSize, nfM_letters, nfM_fresh, nfM_read, nfM_fresher)) ∧ Bw dC dI A [(oc7 oM iM_thrown rM_tape iM_taped iM_size niM_at niM_end niM_token niM_whole niM_nameSize niM_fault niM_place iM_trouble rM_letters niM_failed iM_hasCourt rM_r rM_fresh rM_told rM_read rM_st rM_undone rM_kept iM_undos iM_images rM_fresher niM_fresherSize iM_scale iM_night rM_heardRow rM_cutRow iM_breaths iM_cutMany iM_allBreaths rM_trial rM_words iM_fewestBreaths iM_orderMany iM_orderSum iM_leastOrder rM_often iM_setMany iM_someOf iM_allOf iM_allWeight iM_enoughWeight iM_worthSum iM_firstRest iM_leastDrawn), (arI rM_tape kM_tape 900 fM_tape), (arI rM_letters kM_letters 8 nfM_letters), (arI rM_fresh kM_fresh 287 nfM_fresh), (arI rM_read kM_read 90 nfM_read), (arI rM_fresher kM_fresher 8 nfM_fresher)] [(kM_tape, .int), (kM_letters, .int), (kM_fresh, .int), (kM_read, .int), (kM_fresher, .int)] t) A) ([.ref oM, .int p0] : List Value).toArray s 0 0 A) (F0 m 24 ls []) := by
      intro n_6192
      induction n_6192 with
      | zero => intro z_6179 z_6180 z_6181 z_6182 z_6183 z_6184 z_6185 z_6186 z_6187 z_6188 f_6189 f_6190 f_6191 H locs ls b_z_6182 b_z_6185 b_z_6188 hi0_n_6192 hi1_n_6192 hi2_n_6192 hi3_n_6192 hi4_n_6192 hi5_n_6192 hi6_n_6192 hi7_n_6192 hi8_n_6192 hm; exact absurd hm (Nat.not_lt_zero _)
      | succ n_6192 ih_n_6192 =>
        intro z_6179 z_6180 z_6181 z_6182 z_6183 z_6184 z_6185 z_6186 z_6187 z_6188 f_6189 f_6190 f_6191 H locs ls b_z_6182 b_z_6185 b_z_6188 hi0_n_6192 hi1_n_6192 hi2_n_6192 hi3_n_6192 hi4_n_6192 hi5_n_6192 hi6_n_6192 hi7_n_6192 hi8_n_6192 hm_n_6192 hG hP hD hS hl
        have hG := hG.trans (HX7_innerLine_0_eq _ _ _ _ _ _ _ _ _ _ _ _ _ _ _ _ _ _ _ _)
        have pl_f_6190 := hi2_n_6192.lins
        refine lv_iload hx hb dX7_innerLine_24 (lv_at hl 0 rfl) ?_
        refine lv_if_eq (tgt := 198) hx hb dX7_innerLine_26 (by decide) (fun c_6193 => ?_) (fun c_6193 => ?_)
        · skip
          have hG := hG.trans (if_pos c_6193)
          have gc_6193 := ti_eq c_6193 rfl kc_0
          have h_6194 : 1 ≤ z_6179.toInt := hi5_n_6192 (om_02e9bb08 gc_6193)
          clear hi5_n_6192
          refine lv_aload_n hx hb dX7_innerLine_198 rfl (lv_at hl 3 rfl) ?_
          refine va_get (D := (dC, dI)) (ci := 7) (v := .int z_6188) (C := RX7) (T := TX7) (N := 48) hx hb hts inX7 hown hK hP 0 rfl rfl 13 (by decide) (hts _ wd_380) (fun _ h9 => h9) rfl dX7_innerLine_199 ?_
          refine lv_if_eq (tgt := 206) hx hb dX7_innerLine_202 (by decide) (fun c_6195 => ?_) (fun c_6195 => ?_)
          · skip
            have hG := hG.trans (if_pos c_6195)
            have gc_6195 := ti_eq c_6195 rfl kc_0
            refine lv_aload_n hx hb dX7_innerLine_206 rfl (lv_at hl 3 rfl) ?_
            refine va_get (D := (dC, dI)) (ci := 7) (v := .ref rM_fresh) (C := RX7) (T := TX7) (N := 48) hx hb hts inX7 hown hK hP 0 rfl rfl 16 (by decide) (hts _ wd_156) (fun _ h9 => h9) rfl dX7_innerLine_207 ?_
            refine lv_bipush (v := 27) hx hb dX7_innerLine_210 (by decide) ?_
            refine lv_iload_n hx hb dX7_innerLine_212 rfl (lv_at hl 2 rfl) ?_
            refine lv_iadd hx hb dX7_innerLine_213 ?_
            refine lv_topi (fun x_6196 ex_6196 => ?_)
            have hG := hG.trans (lt_eq ex_6196)
            have vx_6196 : x_6196.toInt = x_6178.toInt + 27 := om_6c48219a (ti_add ex_6196 kc_27 rfl (om_41e8b5f2 pl_fM_fresh.2.2.2.2.1.1 pl_fM_fresh.2.2.2.2.1.2 cx_6178) (om_2e953c3d pl_fM_fresh.2.1 pl_fM_fresh.2.2.1.2 pl_fM_fresh.2.2.2.2.2.1.2 cx_6178))
            refine lv_iload_n hx hb dX7_innerLine_214 rfl (lv_at hl 1 rfl) ?_
            refine va_iast hx hb hK hP hD hS 3 2 rfl rfl (ti_in vx_6196 (om_88805813 pl_fM_fresh.2.2.2.2.1.1 pl_fM_fresh.2.2.2.2.1.2 cx_6178) (om_400ea2f3 pl_fM_fresh.2.1 pl_fM_fresh.2.2.1.2 pl_fM_fresh.2.2.2.2.2.1.2 cx_6178)) dX7_innerLine_215 (fun H locs hP hD hS => ?_)
            obtain ⟨f_6197, ef_6197⟩ : ∃ g : Nat → Int32, g = upd f_6190 x_6196.toNatClampNeg z_6179 := ⟨_, rfl⟩
            rw [← ef_6197] at hP hD
            have hG := hG.trans (lt_eq ef_6197)
            obtain ⟨hP, hD⟩ := wl2 (ws' := [(oc7 oM iM_thrown rM_tape iM_taped iM_size z_6181 z_6182 z_6183 z_6184 z_6185 z_6186 z_6187 iM_trouble rM_letters z_6188 iM_hasCourt rM_r rM_fresh rM_told rM_read rM_st rM_undone rM_kept iM_undos iM_images rM_fresher x_6175 iM_scale iM_night rM_heardRow rM_cutRow iM_breaths iM_cutMany iM_allBreaths rM_trial rM_words iM_fewestBreaths iM_orderMany iM_orderSum iM_leastOrder rM_often iM_setMany iM_someOf iM_allOf iM_allWeight iM_enoughWeight iM_worthSum iM_firstRest iM_leastDrawn), (arI rM_tape kM_tape 900 fM_tape), (arI rM_letters kM_letters 8 f_6189), (arI rM_fresh kM_fresh 287 f_6197), (arI rM_read kM_read 90 f_6191), (arI rM_fresher kM_fresher 8 f_6177)]) hP hD rfl
            have o1_f_6197 : (f_6197 1).toInt = (f_6190 1).toInt := put_at ef_6197 (Nat.ne_of_lt (om_748d98c6 (ti_cl (x := x_6196) vx_6196 (om_88805813 pl_fM_fresh.2.2.2.2.1.1 pl_fM_fresh.2.2.2.2.1.2 cx_6178)) pl_fM_fresh.2.2.2.2.1.1 pl_fM_fresh.2.2.2.2.1.2 cx_6178))
            have o7_f_6197 : (f_6197 7).toInt = (f_6190 7).toInt := put_at ef_6197 (Nat.ne_of_lt (om_62246ba3 (ti_cl (x := x_6196) vx_6196 (om_88805813 pl_fM_fresh.2.2.2.2.1.1 pl_fM_fresh.2.2.2.2.1.2 cx_6178)) pl_fM_fresh.2.2.2.2.1.1 pl_fM_fresh.2.2.2.2.1.2 cx_6178))
            have o8_f_6197 : (f_6197 8).toInt = (f_6190 8).toInt := put_at ef_6197 (Nat.ne_of_lt (om_4d313e7b (ti_cl (x := x_6196) vx_6196 (om_88805813 pl_fM_fresh.2.2.2.2.1.1 pl_fM_fresh.2.2.2.2.1.2 cx_6178)) pl_fM_fresh.2.2.2.2.1.1 pl_fM_fresh.2.2.2.2.1.2 cx_6178))
            refine lv_aload_n hx hb dX7_innerLine_216 rfl (lv_at hl 3 rfl) ?_
            refine lv_iload_n hx hb dX7_innerLine_217 rfl (lv_at hl 4 rfl) ?_
            have hMs := ml_of hD [true, false, false, true, false, true] (wc := [(oc7 oM iM_thrown rM_tape iM_taped iM_size z_6181 z_6182 z_6183 z_6184 z_6185 z_6186 z_6187 iM_trouble rM_letters z_6188 iM_hasCourt rM_r rM_fresh rM_told rM_read rM_st rM_undone rM_kept iM_undos iM_images rM_fresher x_6175 iM_scale iM_night rM_heardRow rM_cutRow iM_breaths iM_cutMany iM_allBreaths rM_trial rM_words iM_fewestBreaths iM_orderMany iM_orderSum iM_leastOrder rM_often iM_setMany iM_someOf iM_allOf iM_allWeight iM_enoughWeight iM_worthSum iM_firstRest iM_leastDrawn), (arI rM_fresh kM_fresh 287 f_6197), (arI rM_fresher kM_fresher 8 f_6177)]) rfl
            have hFc := va_freeM hD hS hA _ hMs
            refine va_callv (va_runV (As := [.int p0]) (rest := []) ⟨hx, hb, hml, hown, hts⟩ (tX7_lay l dC dI _ oM iM_thrown rM_tape iM_taped iM_size z_6181 z_6182 z_6183 z_6184 z_6185 z_6186 z_6187 iM_trouble rM_letters z_6188 iM_hasCourt rM_r rM_fresh f_6197 kM_fresh rM_told rM_read rM_st rM_undone rM_kept iM_undos iM_images rM_fresher f_6177 kM_fresher x_6175 iM_scale iM_night rM_heardRow rM_cutRow iM_breaths iM_cutMany iM_allBreaths rM_trial rM_words iM_fewestBreaths iM_orderMany iM_orderSum iM_leastOrder rM_often iM_setMany iM_someOf iM_allOf iM_allWeight iM_enoughWeight iM_worthSum iM_firstRest iM_leastDrawn p0 b_iM_taped b_iM_size b_z_6182 b_z_6185 b_z_6188 b_iM_hasCourt b_iM_undos b_iM_images b_iM_scale b_iM_breaths b_iM_cutMany hi6_n_6192 (om_02e9bb08 gc_6195) ⟨(om_a12d6474 pl_f_6190.2.2.2.2.1.1 pl_f_6190.2.2.2.2.1.2 o1_f_6197), (om_10e45097 pl_fM_fresh.2.1 pl_fM_fresh.2.2.1.2 h_6166 hi4_n_6192.1 o1_f_6197)⟩) (cwV 1 hts (wd_V wd_478 wd_479 wd_480 wd_5 (wd_c wd_481)) rfl rfl rfl dv_yX7_lay_1 ⟨Nat.le_of_ble_eq_true rfl, Nat.le_of_ble_eq_true rfl⟩) ⟨Pw.fb, recvX7 hK hP (q0 := 0) rfl, fun U hU hW => Pw.to (hP.ms _ hMs) (hD.ms _ hMs) (hK.ms [false, false, true, false, true] rfl) hE hS hFc hU hW⟩ rfl rfl hl.1 rfl (lv_room (Nat.le_of_ble_eq_true rfl)) dX7_innerLine_218 ⟨Nat.le_of_ble_eq_true rfl, Nat.le_of_ble_eq_true rfl⟩) hS (fun q _ h => hFc q h) hFc (fun u t H locs ht hvm hw hB hz1 hk1 hS => ?_)
            refine ex_1_2 hB (fun f_6198 e_f_6198_0 e_f_6198_1 hB => ?_)
            obtain ⟨hP, hD⟩ := Bw.goN (ws' := [(oc7 oM iM_thrown rM_tape iM_taped iM_size z_6181 z_6182 z_6183 z_6184 z_6185 z_6186 z_6187 iM_trouble rM_letters z_6188 iM_hasCourt rM_r rM_fresh rM_told rM_read rM_st rM_undone rM_kept iM_undos iM_images rM_fresher x_6175 iM_scale iM_night rM_heardRow rM_cutRow iM_breaths iM_cutMany iM_allBreaths rM_trial rM_words iM_fewestBreaths iM_orderMany iM_orderSum iM_leastOrder rM_often iM_setMany iM_someOf iM_allOf iM_allWeight iM_enoughWeight iM_worthSum iM_firstRest iM_leastDrawn), (arI rM_tape kM_tape 900 fM_tape), (arI rM_letters kM_letters 8 f_6189), (arI rM_fresh kM_fresh 287 f_6198), (arI rM_read kM_read 90 f_6191), (arI rM_fresher kM_fresher 8 f_6177)]) hB rfl ht hP hD _ hMs hk1 hFc rfl
            clear hz1 hk1 hvm ht hB hMs
            have o2_f_6198 : (f_6198 2).toInt = (f_6197 2).toInt := by rw [(e_f_6198_0).2.2.1 2 (by decide) (by decide) (Nat.ne_of_lt (Nat.lt_of_lt_of_le (by decide) (Nat.le_add_right 9 _)))]
            have o7_f_6198 : (f_6198 7).toInt = (f_6197 7).toInt := by rw [(e_f_6198_0).2.2.1 7 (by decide) (by decide) (Nat.ne_of_lt (Nat.lt_of_lt_of_le (by decide) (Nat.le_add_right 9 _)))]
            have o8_f_6198 : (f_6198 8).toInt = (f_6197 8).toInt := by rw [(e_f_6198_0).2.2.1 8 (by decide) (by decide) (Nat.ne_of_lt (Nat.lt_of_lt_of_le (by decide) (Nat.le_add_right 9 _)))]
            have hG := hG.trans (lt_eq e_f_6198_1.symm)
            refine lv_aload_n hx hb dX7_innerLine_221 rfl (lv_at hl 3 rfl) ?_
            refine va_get (D := (dC, dI)) (ci := 7) (v := .ref rM_fresh) (C := RX7) (T := TX7) (N := 48) hx hb hts inX7 hown hK hP 0 rfl rfl 16 (by decide) (hts _ wd_156) (fun _ h9 => h9) rfl dX7_innerLine_222 ?_
            refine lv_bipush (v := 7) hx hb dX7_innerLine_225 (by decide) ?_
            refine lv_dup2_11 hx hb dX7_innerLine_227 rfl rfl ?_
            refine va_iald hx hb hK hP 3 2 rfl rfl (by unfold vp_in; decide) dX7_innerLine_228 ?_
            refine lv_topi (fun x_6199 ex_6199 => ?_)
            have hG := hG.trans (lt_eq ex_6199)
            have cx_6199 : (f_6198 7).toInt = x_6199.toInt := congrArg Int32.toInt (show f_6198 7 = x_6199 from ex_6199.symm)
            refine lv_iconst (v := 1) hx hb dX7_innerLine_229 (by decide) ?_
            refine lv_iadd hx hb dX7_innerLine_230 ?_
            refine lv_topi (fun x_6200 ex_6200 => ?_)
            have hG := hG.trans (lt_eq ex_6200)
            have vx_6200 : x_6200.toInt = x_6199.toInt + 1 := ti_add ex_6200 rfl kc_1 (om_5f3e4666 pl_f_6190.2.2.2.2.2.1.1 o7_f_6197 o7_f_6198 cx_6199) (om_ac8e3760 pl_f_6190.2.2.2.2.2.1.2 o7_f_6197 o7_f_6198 cx_6199)
            refine va_iast hx hb hK hP hD hS 3 2 rfl rfl (by unfold vp_in; decide) dX7_innerLine_231 (fun H locs hP hD hS => ?_)
            obtain ⟨f_6201, ef_6201⟩ : ∃ g : Nat → Int32, g = upd f_6198 (7 : Int32).toNatClampNeg x_6200 := ⟨_, rfl⟩
            rw [← ef_6201] at hP hD
            have hG := hG.trans (lt_eq ef_6201)
            obtain ⟨hP, hD⟩ := wl2 (ws' := [(oc7 oM iM_thrown rM_tape iM_taped iM_size z_6181 z_6182 z_6183 z_6184 z_6185 z_6186 z_6187 iM_trouble rM_letters z_6188 iM_hasCourt rM_r rM_fresh rM_told rM_read rM_st rM_undone rM_kept iM_undos iM_images rM_fresher x_6175 iM_scale iM_night rM_heardRow rM_cutRow iM_breaths iM_cutMany iM_allBreaths rM_trial rM_words iM_fewestBreaths iM_orderMany iM_orderSum iM_leastOrder rM_often iM_setMany iM_someOf iM_allOf iM_allWeight iM_enoughWeight iM_worthSum iM_firstRest iM_leastDrawn), (arI rM_tape kM_tape 900 fM_tape), (arI rM_letters kM_letters 8 f_6189), (arI rM_fresh kM_fresh 287 f_6201), (arI rM_read kM_read 90 f_6191), (arI rM_fresher kM_fresher 8 f_6177)]) hP hD rfl
            have o8_f_6201 : (f_6201 8).toInt = (f_6198 8).toInt := put_at ef_6201 (by decide)
            refine lv_aload_n hx hb dX7_innerLine_232 rfl (lv_at hl 3 rfl) ?_
            refine va_get (D := (dC, dI)) (ci := 7) (v := .ref rM_fresh) (C := RX7) (T := TX7) (N := 48) hx hb hts inX7 hown hK hP 0 rfl rfl 16 (by decide) (hts _ wd_156) (fun _ h9 => h9) rfl dX7_innerLine_233 ?_
            refine lv_bipush (v := 8) hx hb dX7_innerLine_236 (by decide) ?_
            refine lv_dup2_11 hx hb dX7_innerLine_238 rfl rfl ?_
            refine va_iald hx hb hK hP 3 2 rfl rfl (by unfold vp_in; decide) dX7_innerLine_239 ?_
            refine lv_topi (fun x_6202 ex_6202 => ?_)
            have hG := hG.trans (lt_eq ex_6202)
            have cx_6202 : (f_6201 8).toInt = x_6202.toInt := congrArg Int32.toInt (show f_6201 8 = x_6202 from ex_6202.symm)
            refine lv_iload_n hx hb dX7_innerLine_240 rfl (lv_at hl 4 rfl) ?_
            refine lv_iconst (v := 3) hx hb dX7_innerLine_241 (by decide) ?_
            refine lv_icmp_ne (tgt := 249) hx hb dX7_innerLine_242 (by decide) (fun c_6203 => ?_) (fun c_6203 => ?_)
            · skip
              have hG := hG.trans (if_neg c_6203)
              have gc_6203 := ti_ne c_6203 rfl kc_3
              replace gc_6203 : p0.toInt + (-2) ≤ 0 := om_b7ea5ffe gc_6203 hp0.2
              clear hic
              refine lv_iconst (v := 0) hx hb dX7_innerLine_249 (by decide) ?_
              refine lv_iadd hx hb dX7_innerLine_250 ?_
              refine lv_topi (fun x_6204 ex_6204 => ?_)
              have hG := hG.trans (lt_eq ex_6204)
              have vx_6204 : x_6204.toInt = x_6202.toInt := om_75165550 (ti_add ex_6204 rfl kc_0 (om_5483085b pl_f_6190.2.2.2.2.2.2.1 o8_f_6197 o8_f_6198 o8_f_6201 cx_6202) (om_2ab9c540 pl_f_6190.2.2.2.2.2.2.2 o8_f_6197 o8_f_6198 o8_f_6201 cx_6202))
              refine va_iast hx hb hK hP hD hS 3 2 rfl rfl (by unfold vp_in; decide) dX7_innerLine_251 (fun H locs hP hD hS => ?_)
              obtain ⟨f_6205, ef_6205⟩ : ∃ g : Nat → Int32, g = upd f_6201 (8 : Int32).toNatClampNeg x_6204 := ⟨_, rfl⟩
              rw [← ef_6205] at hP hD
              have hG := hG.trans (lt_eq ef_6205)
              obtain ⟨hP, hD⟩ := wl2 (ws' := [(oc7 oM iM_thrown rM_tape iM_taped iM_size z_6181 z_6182 z_6183 z_6184 z_6185 z_6186 z_6187 iM_trouble rM_letters z_6188 iM_hasCourt rM_r rM_fresh rM_told rM_read rM_st rM_undone rM_kept iM_undos iM_images rM_fresher x_6175 iM_scale iM_night rM_heardRow rM_cutRow iM_breaths iM_cutMany iM_allBreaths rM_trial rM_words iM_fewestBreaths iM_orderMany iM_orderSum iM_leastOrder rM_often iM_setMany iM_someOf iM_allOf iM_allWeight iM_enoughWeight iM_worthSum iM_firstRest iM_leastDrawn), (arI rM_tape kM_tape 900 fM_tape), (arI rM_letters kM_letters 8 f_6189), (arI rM_fresh kM_fresh 287 f_6205), (arI rM_read kM_read 90 f_6191), (arI rM_fresher kM_fresher 8 f_6177)]) hP hD rfl
              have pk_f_6205 : POk f_6205 f_6191 := POk.inner (f := f_6190) (m := z_6179.toNatClampNeg) hi2_n_6192 ef_6197 (by have q9 := ti_cl (x := x_6196) vx_6196 (om_88805813 pl_fM_fresh.2.2.2.2.1.1 pl_fM_fresh.2.2.2.2.1.2 cx_6178); have q2 := ti_cl (x := f_6190 1) rfl (by omega); omega) (by have q3 := ti_cl (x := z_6179) rfl hi0_n_6192.1; omega) (by have q3 := ti_cl (x := z_6179) rfl hi0_n_6192.1; omega) (by have q3 := ti_cl (x := z_6179) rfl hi0_n_6192.1; omega) e_f_6198_0 (by omega) ef_6201 rfl (by have q := vx_6200; omega) ef_6205 rfl (by have q := vx_6204; have q0 := kc_0; have q1 := kc_1; first | (rw [if_pos (by omega)]; omega) | (rw [if_neg (by omega)]; omega)) (by omega) (fun h9 => by omega) hi3_n_6192
              have pl_f_6205 := pk_f_6205.lins
              exact wq_v hx hb hr 0 trivial (fun t ht hW => ⟨z_6181, z_6182, z_6183, z_6184, z_6185, z_6186, z_6187, z_6188, x_6175, f_6189, f_6205, f_6191, f_6177, b_z_6182, b_z_6185, b_z_6188, hi7_n_6192, hi6_n_6192, (om_1fc3dec6 gc_6165 b_z_6188.1), hi8_n_6192, pk_f_6205, hG, Bw.to hP hD hK ht hW⟩) hS dX7_innerLine_252 hlocks
            · skip
              have hG := hG.trans (if_pos c_6203)
              have gc_6203 := ti_eq c_6203 rfl kc_3
              have h_6206 : (fM_fresh 8).toInt ≤ 1 := hic ⟨(om_02e9bb08 gc_6165), (om_ce492ef9 hp0.2 gc_6203)⟩
              clear hic
              refine lv_iconst (v := 1) hx hb dX7_innerLine_245 (by decide) ?_
              refine lv_goto (tgt := 250) hx hb dX7_innerLine_246 (by decide) ?_
              refine lv_iadd hx hb dX7_innerLine_250 ?_
              refine lv_topi (fun x_6207 ex_6207 => ?_)
              have hG := hG.trans (lt_eq ex_6207)
              have vx_6207 : x_6207.toInt = x_6202.toInt + 1 := ti_add ex_6207 rfl kc_1 (om_d0c17b76 pl_f_6190.2.2.2.2.2.2.1 o8_f_6197 o8_f_6198 o8_f_6201 cx_6202) (om_387097be pl_f_6190.2.2.2.2.2.2.2 o8_f_6197 o8_f_6198 o8_f_6201 cx_6202)
              refine va_iast hx hb hK hP hD hS 3 2 rfl rfl (by unfold vp_in; decide) dX7_innerLine_251 (fun H locs hP hD hS => ?_)
              obtain ⟨f_6208, ef_6208⟩ : ∃ g : Nat → Int32, g = upd f_6201 (8 : Int32).toNatClampNeg x_6207 := ⟨_, rfl⟩
              rw [← ef_6208] at hP hD
              have hG := hG.trans (lt_eq ef_6208)
              obtain ⟨hP, hD⟩ := wl2 (ws' := [(oc7 oM iM_thrown rM_tape iM_taped iM_size z_6181 z_6182 z_6183 z_6184 z_6185 z_6186 z_6187 iM_trouble rM_letters z_6188 iM_hasCourt rM_r rM_fresh rM_told rM_read rM_st rM_undone rM_kept iM_undos iM_images rM_fresher x_6175 iM_scale iM_night rM_heardRow rM_cutRow iM_breaths iM_cutMany iM_allBreaths rM_trial rM_words iM_fewestBreaths iM_orderMany iM_orderSum iM_leastOrder rM_often iM_setMany iM_someOf iM_allOf iM_allWeight iM_enoughWeight iM_worthSum iM_firstRest iM_leastDrawn), (arI rM_tape kM_tape 900 fM_tape), (arI rM_letters kM_letters 8 f_6189), (arI rM_fresh kM_fresh 287 f_6208), (arI rM_read kM_read 90 f_6191), (arI rM_fresher kM_fresher 8 f_6177)]) hP hD rfl
              have pk_f_6208 : POk f_6208 f_6191 := POk.inner (f := f_6190) (m := z_6179.toNatClampNeg) hi2_n_6192 ef_6197 (by have q9 := ti_cl (x := x_6196) vx_6196 (om_88805813 pl_fM_fresh.2.2.2.2.1.1 pl_fM_fresh.2.2.2.2.1.2 cx_6178); have q2 := ti_cl (x := f_6190 1) rfl (by omega); omega) (by have q3 := ti_cl (x := z_6179) rfl hi0_n_6192.1; omega) (by have q3 := ti_cl (x := z_6179) rfl hi0_n_6192.1; omega) (by have q3 := ti_cl (x := z_6179) rfl hi0_n_6192.1; omega) e_f_6198_0 (by omega) ef_6201 rfl (by have q := vx_6200; omega) ef_6208 rfl (by have q := vx_6207; have q0 := kc_0; have q1 := kc_1; first | (rw [if_pos (by omega)]; omega) | (rw [if_neg (by omega)]; omega)) (by omega) (fun h9 => by omega) hi3_n_6192
              have pl_f_6208 := pk_f_6208.lins
              exact wq_v hx hb hr 0 trivial (fun t ht hW => ⟨z_6181, z_6182, z_6183, z_6184, z_6185, z_6186, z_6187, z_6188, x_6175, f_6189, f_6208, f_6191, f_6177, b_z_6182, b_z_6185, b_z_6188, hi7_n_6192, hi6_n_6192, (om_1fc3dec6 gc_6165 b_z_6188.1), hi8_n_6192, pk_f_6208, hG, Bw.to hP hD hK ht hW⟩) hS dX7_innerLine_252 hlocks
          · skip
            have hG := hG.trans (if_neg c_6195)
            have gc_6195 := ti_ne c_6195 rfl kc_0
            replace gc_6195 : (-1) * z_6188.toInt + 1 ≤ 0 := om_e3003f79 gc_6195 b_z_6188.1
            exact wq_v hx hb hr 0 trivial (fun t ht hW => ⟨z_6181, z_6182, z_6183, z_6184, z_6185, z_6186, z_6187, z_6188, x_6175, f_6189, f_6190, f_6191, f_6177, b_z_6182, b_z_6185, b_z_6188, hi7_n_6192, hi6_n_6192, (om_1fc3dec6 gc_6165 b_z_6188.1), hi8_n_6192, hi2_n_6192, hG, Bw.to hP hD hK ht hW⟩) hS dX7_innerLine_205 hlocks
        · skip
          have hG := hG.trans (if_neg c_6193)
          have gc_6193 := ti_ne c_6193 rfl kc_0
          replace gc_6193 : (-1) * z_6180.toInt + 1 ≤ 0 := om_e3003f79 gc_6193 hi1_n_6192.1
          clear hi5_n_6192
          refine lv_aload_n hx hb dX7_innerLine_29 rfl (lv_at hl 3 rfl) ?_
          refine va_get (D := (dC, dI)) (ci := 7) (v := .int z_6188) (C := RX7) (T := TX7) (N := 48) hx hb hts inX7 hown hK hP 0 rfl rfl 13 (by decide) (hts _ wd_380) (fun _ h9 => h9) rfl dX7_innerLine_30 ?_
          refine lv_if_ne (tgt := 198) hx hb dX7_innerLine_33 (by decide) (fun c_6209 => ?_) (fun c_6209 => ?_)
          · skip
            have hG := hG.trans (if_neg c_6209)
            have gc_6209 := ti_ne c_6209 rfl kc_0
            replace gc_6209 : (-1) * z_6188.toInt + 1 ≤ 0 := om_e3003f79 gc_6209 b_z_6188.1
            refine lv_aload_n hx hb dX7_innerLine_198 rfl (lv_at hl 3 rfl) ?_
            refine va_get (D := (dC, dI)) (ci := 7) (v := .int z_6188) (C := RX7) (T := TX7) (N := 48) hx hb hts inX7 hown hK hP 0 rfl rfl 13 (by decide) (hts _ wd_380) (fun _ h9 => h9) rfl dX7_innerLine_199 ?_
            refine lv_if_eq (tgt := 206) hx hb dX7_innerLine_202 (by decide) (fun c_6210 => ?_) (fun c_6210 => ?_)
            · skip
              have hG := hG.trans (if_pos c_6210)
              have gc_6210 := ti_eq c_6210 rfl kc_0
              exact ((om_77e4ddb5 gc_6209 gc_6210)).elim
            · skip
              have hG := hG.trans (if_neg c_6210)
              have gc_6210 := ti_ne c_6210 rfl kc_0
              replace gc_6210 : (-1) * z_6188.toInt + 1 ≤ 0 := om_e3003f79 gc_6210 b_z_6188.1
              exact wq_v hx hb hr 0 trivial (fun t ht hW => ⟨z_6181, z_6182, z_6183, z_6184, z_6185, z_6186, z_6187, z_6188, x_6175, f_6189, f_6190, f_6191, f_6177, b_z_6182, b_z_6185, b_z_6188, hi7_n_6192, hi6_n_6192, (om_1fc3dec6 gc_6165 b_z_6188.1), hi8_n_6192, hi2_n_6192, hG, Bw.to hP hD hK ht hW⟩) hS dX7_innerLine_205 hlocks
          · skip
            have hG := hG.trans (if_pos c_6209)
            have gc_6209 := ti_eq c_6209 rfl kc_0
            refine lv_aload_n hx hb dX7_innerLine_36 rfl (lv_at hl 3 rfl) ?_
            have hMs := ml_of hD [true, false, true, true, true, false] (wc := [(oc7 oM iM_thrown rM_tape iM_taped iM_size z_6181 z_6182 z_6183 z_6184 z_6185 z_6186 z_6187 iM_trouble rM_letters z_6188 iM_hasCourt rM_r rM_fresh rM_told rM_read rM_st rM_undone rM_kept iM_undos iM_images rM_fresher x_6175 iM_scale iM_night rM_heardRow rM_cutRow iM_breaths iM_cutMany iM_allBreaths rM_trial rM_words iM_fewestBreaths iM_orderMany iM_orderSum iM_leastOrder rM_often iM_setMany iM_someOf iM_allOf iM_allWeight iM_enoughWeight iM_worthSum iM_firstRest iM_leastDrawn), (arI rM_letters kM_letters 8 f_6189), (arI rM_fresh kM_fresh 287 f_6190), (arI rM_read kM_read 90 f_6191)]) rfl
            have hFc := va_freeM hD hS hA _ hMs
            refine va_calli (va_runV (As := []) (rest := []) ⟨hx, hb, hml, hown, hts⟩ (tX7_nodeHere l dC dI _ oM iM_thrown rM_tape iM_taped iM_size z_6181 z_6182 z_6183 z_6184 z_6185 z_6186 z_6187 iM_trouble rM_letters f_6189 kM_letters z_6188 iM_hasCourt rM_r rM_fresh f_6190 kM_fresh rM_told rM_read f_6191 kM_read rM_st rM_undone rM_kept iM_undos iM_images rM_fresher x_6175 iM_scale iM_night rM_heardRow rM_cutRow iM_breaths iM_cutMany iM_allBreaths rM_trial rM_words iM_fewestBreaths iM_orderMany iM_orderSum iM_leastOrder rM_often iM_setMany iM_someOf iM_allOf iM_allWeight iM_enoughWeight iM_worthSum iM_firstRest iM_leastDrawn b_iM_taped b_iM_size b_z_6182 b_z_6185 b_z_6188 b_iM_hasCourt b_iM_undos b_iM_images b_iM_scale b_iM_breaths b_iM_cutMany hi6_n_6192 hi2_n_6192) (cwV 0 hts (wd_V wd_486 wd_487 wd_488 wd_5 (wd_c wd_489)) rfl rfl rfl dv_yX7_nodeHere_0 ⟨Nat.le_of_ble_eq_true rfl, Nat.le_of_ble_eq_true rfl⟩) ⟨Pw.fb, recvX7 hK hP (q0 := 0) rfl, fun U hU hW => Pw.to (hP.ms _ hMs) (hD.ms _ hMs) (hK.ms [false, true, true, true, false] rfl) hE hS hFc hU hW⟩ rfl rfl hl.1 rfl (lv_room (Nat.le_of_ble_eq_true rfl)) dX7_innerLine_37 ⟨Nat.le_of_ble_eq_true rfl, Nat.le_of_ble_eq_true rfl⟩) hS (fun q _ h => hFc q h) hFc (fun r u t H locs ht hvm hw hB hz1 hk1 hS => ?_)
            have hru9 := hw.2
            have hw := hw.1
            refine ex_3_4 hB (fun x_6211 x_6212 x_6213 b_x_6213 e_x_6211_0 e_x_6211_1 e_x_6211_2 hB => ?_)
            obtain ⟨hP, hD⟩ := Bw.goN (ws' := [(oc7 oM iM_thrown rM_tape iM_taped iM_size z_6181 z_6182 z_6183 z_6184 z_6185 x_6211 x_6212 iM_trouble rM_letters x_6213 iM_hasCourt rM_r rM_fresh rM_told rM_read rM_st rM_undone rM_kept iM_undos iM_images rM_fresher x_6175 iM_scale iM_night rM_heardRow rM_cutRow iM_breaths iM_cutMany iM_allBreaths rM_trial rM_words iM_fewestBreaths iM_orderMany iM_orderSum iM_leastOrder rM_often iM_setMany iM_someOf iM_allOf iM_allWeight iM_enoughWeight iM_worthSum iM_firstRest iM_leastDrawn), (arI rM_tape kM_tape 900 fM_tape), (arI rM_letters kM_letters 8 f_6189), (arI rM_fresh kM_fresh 287 f_6190), (arI rM_read kM_read 90 f_6191), (arI rM_fresher kM_fresher 8 f_6177)]) hB rfl ht hP hD _ hMs hk1 hFc rfl
            clear hz1 hk1 hvm ht hB hMs
            rw [← hru9] at e_x_6211_2
            obtain ⟨x_6214, rfl⟩ : ∃ z, z = r := ⟨_, rfl⟩
            have hG := hG.trans (un4_eq e_x_6211_2)
            have lx_6214 := hw.2
            have ux_6214 := hw.2
            refine lv_istore (lv' := [(5, .int x_6214), (4, .int z_6180), (3, .int z_6179), (2, .int x_6178), (0, .ref oM), (1, .int p0)]) hx hb dX7_innerLine_40 hl (by decide) rfl (fun ls hl => ?_)
            refine lv_iconst (v := 0) hx hb dX7_innerLine_42 (by decide) ?_
            refine lv_istore (lv' := [(6, .int 0), (5, .int x_6214), (4, .int z_6180), (3, .int z_6179), (2, .int x_6178), (0, .ref oM), (1, .int p0)]) hx hb dX7_innerLine_43 hl (by decide) rfl (fun ls hl => ?_)
            have hl := lv_sub hl (l' := [(6, .int 0), (5, .int x_6214), (4, .int z_6180), (3, .int z_6179), (2, .int x_6178), (0, .ref oM), (1, .int p0)]) [0, 1, 2, 3, 4, 5, 6] rfl
            have key_n_6219 : ∀ (n_6219 : Nat) (z_6215 : Int32) (z_6216 : Int32) (z_6217 : Int32) (z_6218 : Int32) (H : Heap) (locs : List Loc) (ls : Array Slot), (0 ≤ z_6216.toInt ∧ z_6216.toInt ≤ 1) → (0 ≤ z_6215.toInt ∧ z_6215.toInt ≤ z_6179.toInt) → (x_6213.toInt ≤ z_6216.toInt) → (NeI z_6216.toInt z_6215.toNatClampNeg f_6191 x_6178.toNatClampNeg x_6214.toInt) → (z_6179.toInt - z_6215.toInt).toNat < n_6219 → (PX7_innerLine fM_tape iM_size iM_at iM_end iM_token iM_whole iM_nameSize iM_fault iM_place fM_letters iM_failed fM_fresh fM_read fM_fresher iM_fresherSize p0 = HX7_innerLine_1 fM_tape iM_size p0 x_6175 f_6177 x_6178 z_6179 z_6181 z_6182 z_6183 z_6184 z_6185 f_6189 f_6190 f_6191 x_6214 (fun (z_6179 : Int32) (z_6180 : Int32) (z_6181 : Int32) (z_6182 : Int32) (z_6183 : Int32) (z_6184 : Int32) (z_6185 : Int32) (z_6186 : Int32) (z_6187 : Int32) (z_6188 : Int32) (f_6189 : Nat → Int32) (f_6190 : Nat → Int32) (f_6191 : Nat → Int32) => HX7_innerLine_0 fM_tape iM_size p0 x_6175 f_6177 x_6178 n_6192 z_6179 z_6180 z_6181 z_6182 z_6183 z_6184 z_6185 z_6186 z_6187 z_6188 f_6189 f_6190 f_6191) n_6219 z_6215 z_6216 z_6217 z_6218) → va_P (dC, dI) vwCl [(oc7 oM iM_thrown rM_tape iM_taped iM_size z_6181 z_6182 z_6183 z_6184 z_6185 z_6217 z_6218 iM_trouble rM_letters z_6216 iM_hasCourt rM_r rM_fresh rM_told rM_read rM_st rM_undone rM_kept iM_undos iM_images rM_fresher x_6175 iM_scale iM_night rM_heardRow rM_cutRow iM_breaths iM_cutMany iM_allBreaths rM_trial rM_words iM_fewestBreaths iM_orderMany iM_orderSum iM_leastOrder rM_often iM_setMany iM_someOf iM_allOf iM_allWeight iM_enoughWeight iM_worthSum iM_firstRest iM_leastDrawn), (arI rM_tape kM_tape 900 fM_tape), (arI rM_letters kM_letters 8 f_6189), (arI rM_fresh kM_fresh 287 f_6190), (arI rM_read kM_read 90 f_6191), (arI rM_fresher kM_fresher 8 f_6177)] H → va_D A [(oc7 oM iM_thrown rM_tape iM_taped iM_size z_6181 z_6182 z_6183 z_6184 z_6185 z_6217 z_6218 iM_trouble rM_letters z_6216 iM_hasCourt rM_r rM_fresh rM_told rM_read rM_st rM_undone rM_kept iM_undos iM_images rM_fresher x_6175 iM_scale iM_night rM_heardRow rM_cutRow iM_breaths iM_cutMany iM_allBreaths rM_trial rM_words iM_fewestBreaths iM_orderMany iM_orderSum iM_leastOrder rM_often iM_setMany iM_someOf iM_allOf iM_allWeight iM_enoughWeight iM_worthSum iM_firstRest iM_leastDrawn), (arI rM_tape kM_tape 900 fM_tape), (arI rM_letters kM_letters 8 f_6189), (arI rM_fresh kM_fresh 287 f_6190), (arI rM_read kM_read 90 f_6191), (arI rM_fresher kM_fresher 8 f_6177)] → va_S A s.heap H locs → lv_has ls 7 [(6, .int z_6215), (5, .int x_6214), (4, .int z_6180), (3, .int z_6179), (2, .int x_6178), (0, .ref oM), (1, .int p0)] → W p l e (headSpec (Cond.code yX7_innerLine cX7_innerLine 7 none :: wG) ({ frames := 7, cells := 0, slots := 0, locals := 175 })).room s m ([.ref oM, .int p0] : List Value).toArray below meth c H locs 0 0 (MQ below (va_Qv (fun (_ : Nat) => True) (fun (_ : Nat) (t : State) => ∃ (niM_at : Int32) (niM_end : Int32) (niM_token : Int32) (niM_whole : Int32) (niM_nameSize : Int32) (niM_fault : Int32) (niM_place : Int32) (niM_failed : Int32) (niM_fresherSize : Int32) (nfM_letters : Nat → Int32) (nfM_fresh : Nat → Int32) (nfM_read : Nat → Int32) (nfM_fresher : Nat → Int32), (0 ≤ niM_end.toInt ∧ niM_end.toInt ≤ 900) ∧ (0 ≤ niM_nameSize.toInt ∧ niM_nameSize.toInt ≤ 900) ∧ (0 ≤ niM_failed.toInt ∧ niM_failed.toInt ≤ 1) ∧ (iM_end.toInt ≤ niM_end.toInt) ∧ (ImpP (niM_token.toInt = 2) (niM_nameSize.toInt ≤ 8)) ∧ (iM_failed.toInt ≤ niM_failed.toInt) ∧ (ImpP (niM_failed.toInt ≤ 0 ∧ niM_token.toInt = 59 ) (iM_end.toInt + 1 ≤ niM_end.toInt)) ∧ (POk nfM_fresh nfM_read) ∧ (PX7_innerLine fM_tape iM_size iM_at iM_end iM_token iM_whole iM_nameSize iM_fault iM_place fM_letters iM_failed fM_fresh fM_read fM_fresher iM_fresherSize p0 = (niM_at, niM_end, niM_token, niM_whole, niM_nameSize, niM_fault, niM_place, niM_failed, niM_fresherSize, nfM_letters, nfM_fresh, nfM_read, nfM_fresher)) ∧ Bw dC dI A [(oc7 oM iM_thrown rM_tape iM_taped iM_size niM_at niM_end niM_token niM_whole niM_nameSize niM_fault niM_place iM_trouble rM_letters niM_failed iM_hasCourt rM_r rM_fresh rM_told rM_read rM_st rM_undone rM_kept iM_undos iM_images rM_fresher niM_fresherSize iM_scale iM_night rM_heardRow rM_cutRow iM_breaths iM_cutMany iM_allBreaths rM_trial rM_words iM_fewestBreaths iM_orderMany iM_orderSum iM_leastOrder rM_often iM_setMany iM_someOf iM_allOf iM_allWeight iM_enoughWeight iM_worthSum iM_firstRest iM_leastDrawn), (arI rM_tape kM_tape 900 fM_tape), (arI rM_letters kM_letters 8 nfM_letters), (arI rM_fresh kM_fresh 287 nfM_fresh), (arI rM_read kM_read 90 nfM_read), (arI rM_fresher kM_fresher 8 nfM_fresher)] [(kM_tape, .int), (kM_letters, .int), (kM_fresh, .int), (kM_read, .int), (kM_fresher, .int)] t) A) ([.ref oM, .int p0] : List Value).toArray s 0 0 A) (F0 m 45 ls []) := by
              intro n_6219
              induction n_6219 with
              | zero => intro z_6215 z_6216 z_6217 z_6218 H locs ls b_z_6216 hi0_n_6219 hi1_n_6219 hi2_n_6219 hm; exact absurd hm (Nat.not_lt_zero _)
              | succ n_6219 ih_n_6219 =>
                intro z_6215 z_6216 z_6217 z_6218 H locs ls b_z_6216 hi0_n_6219 hi1_n_6219 hi2_n_6219 hm_n_6219 hG hP hD hS hl
                have hG := hG.trans (HX7_innerLine_1_eq _ _ _ _ _ _ _ _ _ _ _ _ _ _ _ _ _ _ _ _ _ _)
                refine lv_iload hx hb dX7_innerLine_45 (lv_at hl 0 rfl) ?_
                refine lv_iload_n hx hb dX7_innerLine_47 rfl (lv_at hl 3 rfl) ?_
                refine lv_icmp_ge (tgt := 89) hx hb dX7_innerLine_48 (by decide) (fun c_6220 => ?_) (fun c_6220 => ?_)
                · skip
                  have hG := hG.trans (if_pos c_6220)
                  have gc_6220 := ti_le c_6220 rfl rfl
                  refine lv_aload_n hx hb dX7_innerLine_89 rfl (lv_at hl 5 rfl) ?_
                  refine va_get (D := (dC, dI)) (ci := 7) (v := .int z_6216) (C := RX7) (T := TX7) (N := 48) hx hb hts inX7 hown hK hP 0 rfl rfl 13 (by decide) (hts _ wd_380) (fun _ h9 => h9) rfl dX7_innerLine_90 ?_
                  refine lv_if_ne (tgt := 110) hx hb dX7_innerLine_93 (by decide) (fun c_6221 => ?_) (fun c_6221 => ?_)
                  · skip
                    have hG := hG.trans (if_neg c_6221)
                    have gc_6221 := ti_ne c_6221 rfl kc_0
                    replace gc_6221 : (-1) * z_6216.toInt + 1 ≤ 0 := om_e3003f79 gc_6221 b_z_6216.1
                    refine lv_aload_n hx hb dX7_innerLine_110 rfl (lv_at hl 5 rfl) ?_
                    have hMs := ml_of hD [true, true, true, false, false, false] (wc := [(oc7 oM iM_thrown rM_tape iM_taped iM_size z_6181 z_6182 z_6183 z_6184 z_6185 z_6217 z_6218 iM_trouble rM_letters z_6216 iM_hasCourt rM_r rM_fresh rM_told rM_read rM_st rM_undone rM_kept iM_undos iM_images rM_fresher x_6175 iM_scale iM_night rM_heardRow rM_cutRow iM_breaths iM_cutMany iM_allBreaths rM_trial rM_words iM_fewestBreaths iM_orderMany iM_orderSum iM_leastOrder rM_often iM_setMany iM_someOf iM_allOf iM_allWeight iM_enoughWeight iM_worthSum iM_firstRest iM_leastDrawn), (arI rM_tape kM_tape 900 fM_tape), (arI rM_letters kM_letters 8 f_6189)]) rfl
                    have hFc := va_freeM hD hS hA _ hMs
                    refine va_callv (va_runV (As := []) (rest := []) ⟨hx, hb, hml, hown, hts⟩ (tX7_pass l dC dI _ oM iM_thrown rM_tape fM_tape kM_tape iM_taped iM_size z_6181 z_6182 z_6183 z_6184 z_6185 z_6217 z_6218 iM_trouble rM_letters f_6189 kM_letters z_6216 iM_hasCourt rM_r rM_fresh rM_told rM_read rM_st rM_undone rM_kept iM_undos iM_images rM_fresher x_6175 iM_scale iM_night rM_heardRow rM_cutRow iM_breaths iM_cutMany iM_allBreaths rM_trial rM_words iM_fewestBreaths iM_orderMany iM_orderSum iM_leastOrder rM_often iM_setMany iM_someOf iM_allOf iM_allWeight iM_enoughWeight iM_worthSum iM_firstRest iM_leastDrawn b_iM_taped b_iM_size b_z_6182 b_z_6185 b_z_6216 b_iM_hasCourt b_iM_undos b_iM_images b_iM_scale b_iM_breaths b_iM_cutMany hi6_n_6192) (cwV 0 hts (wd_V wd_454 wd_455 wd_456 wd_5 (wd_c wd_457)) rfl rfl rfl dv_yX7_pass_0 ⟨Nat.le_of_ble_eq_true rfl, Nat.le_of_ble_eq_true rfl⟩) ⟨Pw.fb, recvX7 hK hP (q0 := 0) rfl, fun U hU hW => Pw.to (hP.ms _ hMs) (hD.ms _ hMs) (hK.ms [true, true, false, false, false] rfl) hE hS hFc hU hW⟩ rfl rfl hl.1 rfl (lv_room (Nat.le_of_ble_eq_true rfl)) dX7_innerLine_111 ⟨Nat.le_of_ble_eq_true rfl, Nat.le_of_ble_eq_true rfl⟩) hS (fun q _ h => hFc q h) hFc (fun u t H locs ht hvm hw hB hz1 hk1 hS => ?_)
                    refine ex_6_6 hB (fun x_6222 x_6223 x_6224 x_6225 x_6226 f_6227 b_x_6223 b_x_6226 e_x_6222_0 e_x_6222_1 e_x_6222_2 e_x_6222_3 hB => ?_)
                    obtain ⟨hP, hD⟩ := Bw.goN (ws' := [(oc7 oM iM_thrown rM_tape iM_taped iM_size x_6222 x_6223 x_6224 x_6225 x_6226 z_6217 z_6218 iM_trouble rM_letters z_6216 iM_hasCourt rM_r rM_fresh rM_told rM_read rM_st rM_undone rM_kept iM_undos iM_images rM_fresher x_6175 iM_scale iM_night rM_heardRow rM_cutRow iM_breaths iM_cutMany iM_allBreaths rM_trial rM_words iM_fewestBreaths iM_orderMany iM_orderSum iM_leastOrder rM_often iM_setMany iM_someOf iM_allOf iM_allWeight iM_enoughWeight iM_worthSum iM_firstRest iM_leastDrawn), (arI rM_tape kM_tape 900 fM_tape), (arI rM_letters kM_letters 8 f_6227), (arI rM_fresh kM_fresh 287 f_6190), (arI rM_read kM_read 90 f_6191), (arI rM_fresher kM_fresher 8 f_6177)]) hB rfl ht hP hD _ hMs hk1 hFc rfl
                    clear hz1 hk1 hvm ht hB hMs
                    have hG := hG.trans (un6_eq e_x_6222_3)
                    clear hi6_n_6192
                    clear hi8_n_6192
                    refine lv_iload_n hx hb dX7_innerLine_114 rfl (lv_at hl 6 rfl) ?_
                    refine lv_iconst (v := 3) hx hb dX7_innerLine_115 (by decide) ?_
                    refine lv_icmp_ne (tgt := 129) hx hb dX7_innerLine_116 (by decide) (fun c_6228 => ?_) (fun c_6228 => ?_)
                    · skip
                      have hG := hG.trans (if_neg c_6228)
                      have gc_6228 := ti_ne c_6228 rfl kc_3
                      replace gc_6228 : p0.toInt + (-2) ≤ 0 := om_b7ea5ffe gc_6228 hp0.2
                      clear hic
                      refine lv_iconst (v := 0) hx hb dX7_innerLine_129 (by decide) ?_
                      refine lv_istore (lv' := [(6, .int 0), (5, .int x_6214), (4, .int z_6180), (3, .int z_6179), (2, .int x_6178), (0, .ref oM), (1, .int p0)]) hx hb dX7_innerLine_130 hl (by decide) rfl (fun ls hl => ?_)
                      refine lv_aload_n hx hb dX7_innerLine_132 rfl (lv_at hl 5 rfl) ?_
                      refine va_get (D := (dC, dI)) (ci := 7) (v := .int z_6216) (C := RX7) (T := TX7) (N := 48) hx hb hts inX7 hown hK hP 0 rfl rfl 13 (by decide) (hts _ wd_380) (fun _ h9 => h9) rfl dX7_innerLine_133 ?_
                      refine lv_if_eq (tgt := 140) hx hb dX7_innerLine_136 (by decide) (fun c_6229 => ?_) (fun c_6229 => ?_)
                      · skip
                        have hG := hG.trans (if_pos c_6229)
                        have gc_6229 := ti_eq c_6229 rfl kc_0
                        exact ((om_77e4ddb5 gc_6221 gc_6229)).elim
                      · skip
                        have hG := hG.trans (if_neg c_6229)
                        have gc_6229 := ti_ne c_6229 rfl kc_0
                        replace gc_6229 : (-1) * z_6216.toInt + 1 ≤ 0 := om_e3003f79 gc_6229 b_z_6216.1
                        exact wq_v hx hb hr 0 trivial (fun t ht hW => ⟨x_6222, x_6223, x_6224, x_6225, x_6226, z_6217, z_6218, z_6216, x_6175, f_6227, f_6190, f_6191, f_6177, b_x_6223, b_x_6226, b_z_6216, (om_9348f5ae hi7_n_6192 e_x_6222_0), e_x_6222_1, (om_1fc3dec6 gc_6165 b_z_6216.1), (fun h9 => False.elim (om_a5fe015d gc_6221 h9.1)), hi2_n_6192, hG, Bw.to hP hD hK ht hW⟩) hS dX7_innerLine_139 hlocks
                    · skip
                      have hG := hG.trans (if_pos c_6228)
                      have gc_6228 := ti_eq c_6228 rfl kc_3
                      have h_6230 : (fM_fresh 8).toInt ≤ 1 := hic ⟨(om_02e9bb08 gc_6165), (om_ce492ef9 hp0.2 gc_6228)⟩
                      clear hic
                      refine lv_aload_n hx hb dX7_innerLine_119 rfl (lv_at hl 5 rfl) ?_
                      refine lv_iconst (v := 1) hx hb dX7_innerLine_120 (by decide) ?_
                      refine lv_bipush (v := 9) hx hb dX7_innerLine_121 (by decide) ?_
                      have hMs := ml_of hD [true, true, true, false, false, false] (wc := [(oc7 oM iM_thrown rM_tape iM_taped iM_size x_6222 x_6223 x_6224 x_6225 x_6226 z_6217 z_6218 iM_trouble rM_letters z_6216 iM_hasCourt rM_r rM_fresh rM_told rM_read rM_st rM_undone rM_kept iM_undos iM_images rM_fresher x_6175 iM_scale iM_night rM_heardRow rM_cutRow iM_breaths iM_cutMany iM_allBreaths rM_trial rM_words iM_fewestBreaths iM_orderMany iM_orderSum iM_leastOrder rM_often iM_setMany iM_someOf iM_allOf iM_allWeight iM_enoughWeight iM_worthSum iM_firstRest iM_leastDrawn), (arI rM_tape kM_tape 900 fM_tape), (arI rM_letters kM_letters 8 f_6227)]) rfl
                      have hFc := va_freeM hD hS hA _ hMs
                      refine va_calli (va_runV (As := [.int 1, .int 9]) (rest := []) ⟨hx, hb, hml, hown, hts⟩ (tX7_number l dC dI _ oM iM_thrown rM_tape fM_tape kM_tape iM_taped iM_size x_6222 x_6223 x_6224 x_6225 x_6226 z_6217 z_6218 iM_trouble rM_letters f_6227 kM_letters z_6216 iM_hasCourt rM_r rM_fresh rM_told rM_read rM_st rM_undone rM_kept iM_undos iM_images rM_fresher x_6175 iM_scale iM_night rM_heardRow rM_cutRow iM_breaths iM_cutMany iM_allBreaths rM_trial rM_words iM_fewestBreaths iM_orderMany iM_orderSum iM_leastOrder rM_often iM_setMany iM_someOf iM_allOf iM_allWeight iM_enoughWeight iM_worthSum iM_firstRest iM_leastDrawn 1 9 b_iM_taped b_iM_size b_x_6223 b_x_6226 b_z_6216 b_iM_hasCourt b_iM_undos b_iM_images b_iM_scale b_iM_breaths b_iM_cutMany e_x_6222_1 (om_dc317686 kc_1 kc_9)) (cwV 2 hts (wd_V wd_446 wd_447 wd_448 wd_5 (wd_c wd_449)) rfl rfl rfl dv_yX7_number_2 ⟨Nat.le_of_ble_eq_true rfl, Nat.le_of_ble_eq_true rfl⟩) ⟨Pw.fb, recvX7 hK hP (q0 := 0) rfl, fun U hU hW => Pw.to (hP.ms _ hMs) (hD.ms _ hMs) (hK.ms [true, true, false, false, false] rfl) hE hS hFc hU hW⟩ rfl rfl hl.1 rfl (lv_room (Nat.le_of_ble_eq_true rfl)) dX7_innerLine_123 ⟨Nat.le_of_ble_eq_true rfl, Nat.le_of_ble_eq_true rfl⟩) hS (fun q _ h => hFc q h) hFc (fun r u t H locs ht hvm hw hB hz1 hk1 hS => ?_)
                      have hru9 := hw.2
                      have hw := hw.1
                      refine ex_9_8 hB (fun x_6231 x_6232 x_6233 x_6234 x_6235 x_6236 x_6237 x_6238 f_6239 b_x_6232 b_x_6235 b_x_6238 e_x_6231_0 e_x_6231_1 e_x_6231_2 e_x_6231_3 e_x_6231_4 hB => ?_)
                      obtain ⟨hP, hD⟩ := Bw.goN (ws' := [(oc7 oM iM_thrown rM_tape iM_taped iM_size x_6231 x_6232 x_6233 x_6234 x_6235 x_6236 x_6237 iM_trouble rM_letters x_6238 iM_hasCourt rM_r rM_fresh rM_told rM_read rM_st rM_undone rM_kept iM_undos iM_images rM_fresher x_6175 iM_scale iM_night rM_heardRow rM_cutRow iM_breaths iM_cutMany iM_allBreaths rM_trial rM_words iM_fewestBreaths iM_orderMany iM_orderSum iM_leastOrder rM_often iM_setMany iM_someOf iM_allOf iM_allWeight iM_enoughWeight iM_worthSum iM_firstRest iM_leastDrawn), (arI rM_tape kM_tape 900 fM_tape), (arI rM_letters kM_letters 8 f_6239), (arI rM_fresh kM_fresh 287 f_6190), (arI rM_read kM_read 90 f_6191), (arI rM_fresher kM_fresher 8 f_6177)]) hB rfl ht hP hD _ hMs hk1 hFc rfl
                      clear hz1 hk1 hvm ht hB hMs
                      rw [← hru9] at e_x_6231_4
                      obtain ⟨x_6240, rfl⟩ : ∃ z, z = r := ⟨_, rfl⟩
                      have hG := hG.trans (un10_eq e_x_6231_4)
                      have lx_6240 := hw.2
                      have kl_1 := kc_1
                      have kl_9 := kc_9
                      clear e_x_6222_1
                      clear e_x_6222_2
                      refine lv_goto (tgt := 130) hx hb dX7_innerLine_126 (by decide) ?_
                      refine lv_istore (lv' := [(6, .int x_6240), (5, .int x_6214), (4, .int z_6180), (3, .int z_6179), (2, .int x_6178), (0, .ref oM), (1, .int p0)]) hx hb dX7_innerLine_130 hl (by decide) rfl (fun ls hl => ?_)
                      refine lv_aload_n hx hb dX7_innerLine_132 rfl (lv_at hl 5 rfl) ?_
                      refine va_get (D := (dC, dI)) (ci := 7) (v := .int x_6238) (C := RX7) (T := TX7) (N := 48) hx hb hts inX7 hown hK hP 0 rfl rfl 13 (by decide) (hts _ wd_380) (fun _ h9 => h9) rfl dX7_innerLine_133 ?_
                      refine lv_if_eq (tgt := 140) hx hb dX7_innerLine_136 (by decide) (fun c_6241 => ?_) (fun c_6241 => ?_)
                      · skip
                        have hG := hG.trans (if_pos c_6241)
                        have gc_6241 := ti_eq c_6241 rfl kc_0
                        exact ((om_30d40e72 gc_6221 e_x_6231_2 gc_6241)).elim
                      · skip
                        have hG := hG.trans (if_neg c_6241)
                        have gc_6241 := ti_ne c_6241 rfl kc_0
                        replace gc_6241 : (-1) * x_6238.toInt + 1 ≤ 0 := om_e3003f79 gc_6241 b_x_6238.1
                        exact wq_v hx hb hr 0 trivial (fun t ht hW => ⟨x_6231, x_6232, x_6233, x_6234, x_6235, x_6236, x_6237, x_6238, x_6175, f_6239, f_6190, f_6191, f_6177, b_x_6232, b_x_6235, b_x_6238, (om_622f2a87 hi7_n_6192 e_x_6222_0 e_x_6231_0), e_x_6231_1, (om_1fc3dec6 gc_6165 b_x_6238.1), (fun h9 => False.elim (om_a5fe015d gc_6241 h9.1)), hi2_n_6192, hG, Bw.to hP hD hK ht hW⟩) hS dX7_innerLine_139 hlocks
                  · skip
                    have hG := hG.trans (if_pos c_6221)
                    have gc_6221 := ti_eq c_6221 rfl kc_0
                    have h_6242 : 1 ≤ (f_6190 1).toInt := e_x_6211_1 (om_6c480895 hi1_n_6219 gc_6221)
                    clear e_x_6211_1
                    have h_6243 : x_6214.toInt < (f_6190 1).toInt := lx_6214.2.1 h_6242
                    refine lv_iload_n hx hb dX7_innerLine_96 rfl (lv_at hl 3 rfl) ?_
                    refine lv_iconst (v := 4) hx hb dX7_innerLine_97 (by decide) ?_
                    refine lv_icmp_ne (tgt := 110) hx hb dX7_innerLine_98 (by decide) (fun c_6244 => ?_) (fun c_6244 => ?_)
                    · skip
                      have hG := hG.trans (if_neg c_6244)
                      have gc_6244 := ti_ne c_6244 rfl kc_4
                      replace gc_6244 : z_6179.toInt + (-3) ≤ 0 := om_96839482 gc_6244 hi0_n_6192.2
                      refine lv_aload_n hx hb dX7_innerLine_110 rfl (lv_at hl 5 rfl) ?_
                      have hMs := ml_of hD [true, true, true, false, false, false] (wc := [(oc7 oM iM_thrown rM_tape iM_taped iM_size z_6181 z_6182 z_6183 z_6184 z_6185 z_6217 z_6218 iM_trouble rM_letters z_6216 iM_hasCourt rM_r rM_fresh rM_told rM_read rM_st rM_undone rM_kept iM_undos iM_images rM_fresher x_6175 iM_scale iM_night rM_heardRow rM_cutRow iM_breaths iM_cutMany iM_allBreaths rM_trial rM_words iM_fewestBreaths iM_orderMany iM_orderSum iM_leastOrder rM_often iM_setMany iM_someOf iM_allOf iM_allWeight iM_enoughWeight iM_worthSum iM_firstRest iM_leastDrawn), (arI rM_tape kM_tape 900 fM_tape), (arI rM_letters kM_letters 8 f_6189)]) rfl
                      have hFc := va_freeM hD hS hA _ hMs
                      refine va_callv (va_runV (As := []) (rest := []) ⟨hx, hb, hml, hown, hts⟩ (tX7_pass l dC dI _ oM iM_thrown rM_tape fM_tape kM_tape iM_taped iM_size z_6181 z_6182 z_6183 z_6184 z_6185 z_6217 z_6218 iM_trouble rM_letters f_6189 kM_letters z_6216 iM_hasCourt rM_r rM_fresh rM_told rM_read rM_st rM_undone rM_kept iM_undos iM_images rM_fresher x_6175 iM_scale iM_night rM_heardRow rM_cutRow iM_breaths iM_cutMany iM_allBreaths rM_trial rM_words iM_fewestBreaths iM_orderMany iM_orderSum iM_leastOrder rM_often iM_setMany iM_someOf iM_allOf iM_allWeight iM_enoughWeight iM_worthSum iM_firstRest iM_leastDrawn b_iM_taped b_iM_size b_z_6182 b_z_6185 b_z_6216 b_iM_hasCourt b_iM_undos b_iM_images b_iM_scale b_iM_breaths b_iM_cutMany hi6_n_6192) (cwV 0 hts (wd_V wd_454 wd_455 wd_456 wd_5 (wd_c wd_457)) rfl rfl rfl dv_yX7_pass_0 ⟨Nat.le_of_ble_eq_true rfl, Nat.le_of_ble_eq_true rfl⟩) ⟨Pw.fb, recvX7 hK hP (q0 := 0) rfl, fun U hU hW => Pw.to (hP.ms _ hMs) (hD.ms _ hMs) (hK.ms [true, true, false, false, false] rfl) hE hS hFc hU hW⟩ rfl rfl hl.1 rfl (lv_room (Nat.le_of_ble_eq_true rfl)) dX7_innerLine_111 ⟨Nat.le_of_ble_eq_true rfl, Nat.le_of_ble_eq_true rfl⟩) hS (fun q _ h => hFc q h) hFc (fun u t H locs ht hvm hw hB hz1 hk1 hS => ?_)
                      refine ex_6_6 hB (fun x_6245 x_6246 x_6247 x_6248 x_6249 f_6250 b_x_6246 b_x_6249 e_x_6245_0 e_x_6245_1 e_x_6245_2 e_x_6245_3 hB => ?_)
                      obtain ⟨hP, hD⟩ := Bw.goN (ws' := [(oc7 oM iM_thrown rM_tape iM_taped iM_size x_6245 x_6246 x_6247 x_6248 x_6249 z_6217 z_6218 iM_trouble rM_letters z_6216 iM_hasCourt rM_r rM_fresh rM_told rM_read rM_st rM_undone rM_kept iM_undos iM_images rM_fresher x_6175 iM_scale iM_night rM_heardRow rM_cutRow iM_breaths iM_cutMany iM_allBreaths rM_trial rM_words iM_fewestBreaths iM_orderMany iM_orderSum iM_leastOrder rM_often iM_setMany iM_someOf iM_allOf iM_allWeight iM_enoughWeight iM_worthSum iM_firstRest iM_leastDrawn), (arI rM_tape kM_tape 900 fM_tape), (arI rM_letters kM_letters 8 f_6250), (arI rM_fresh kM_fresh 287 f_6190), (arI rM_read kM_read 90 f_6191), (arI rM_fresher kM_fresher 8 f_6177)]) hB rfl ht hP hD _ hMs hk1 hFc rfl
                      clear hz1 hk1 hvm ht hB hMs
                      have hG := hG.trans (un6_eq e_x_6245_3)
                      clear hi6_n_6192
                      clear hi8_n_6192
                      refine lv_iload_n hx hb dX7_innerLine_114 rfl (lv_at hl 6 rfl) ?_
                      refine lv_iconst (v := 3) hx hb dX7_innerLine_115 (by decide) ?_
                      refine lv_icmp_ne (tgt := 129) hx hb dX7_innerLine_116 (by decide) (fun c_6251 => ?_) (fun c_6251 => ?_)
                      · skip
                        have hG := hG.trans (if_neg c_6251)
                        have gc_6251 := ti_ne c_6251 rfl kc_3
                        replace gc_6251 : p0.toInt + (-2) ≤ 0 := om_b7ea5ffe gc_6251 hp0.2
                        clear hic
                        refine lv_iconst (v := 0) hx hb dX7_innerLine_129 (by decide) ?_
                        refine lv_istore (lv' := [(6, .int 0), (5, .int x_6214), (4, .int z_6180), (3, .int z_6179), (2, .int x_6178), (0, .ref oM), (1, .int p0)]) hx hb dX7_innerLine_130 hl (by decide) rfl (fun ls hl => ?_)
                        refine lv_aload_n hx hb dX7_innerLine_132 rfl (lv_at hl 5 rfl) ?_
                        refine va_get (D := (dC, dI)) (ci := 7) (v := .int z_6216) (C := RX7) (T := TX7) (N := 48) hx hb hts inX7 hown hK hP 0 rfl rfl 13 (by decide) (hts _ wd_380) (fun _ h9 => h9) rfl dX7_innerLine_133 ?_
                        refine lv_if_eq (tgt := 140) hx hb dX7_innerLine_136 (by decide) (fun c_6252 => ?_) (fun c_6252 => ?_)
                        · skip
                          have hG := hG.trans (if_pos c_6252)
                          have gc_6252 := ti_eq c_6252 rfl kc_0
                          refine lv_aload_n hx hb dX7_innerLine_140 rfl (lv_at hl 5 rfl) ?_
                          refine va_get (D := (dC, dI)) (ci := 7) (v := .ref rM_read) (C := RX7) (T := TX7) (N := 48) hx hb hts inX7 hown hK hP 0 rfl rfl 18 (by decide) (hts _ wd_158) (fun _ h9 => h9) rfl dX7_innerLine_141 ?_
                          refine lv_iconst (v := 4) hx hb dX7_innerLine_144 (by decide) ?_
                          refine lv_iload_n hx hb dX7_innerLine_145 rfl (lv_at hl 4 rfl) ?_
                          refine lv_imul hx hb dX7_innerLine_146 ?_
                          refine lv_topi (fun x_6253 ex_6253 => ?_)
                          have hG := hG.trans (lt_eq ex_6253)
                          have vx_6253 : x_6253.toInt = 4 * x_6178.toInt := ti_mul ex_6253 kc_4 rfl (om_9e6bb6a4 pl_fM_fresh.2.2.2.2.1.1 pl_fM_fresh.2.2.2.2.1.2 cx_6178) (om_7d3cae7d pl_fM_fresh.2.1 pl_fM_fresh.2.2.1.2 pl_fM_fresh.2.2.2.2.2.1.2 cx_6178)
                          refine lv_iload_n hx hb dX7_innerLine_147 rfl (lv_at hl 3 rfl) ?_
                          refine lv_iadd hx hb dX7_innerLine_148 ?_
                          refine lv_topi (fun x_6254 ex_6254 => ?_)
                          have hG := hG.trans (lt_eq ex_6254)
                          have vx_6254 : x_6254.toInt = 4 * x_6178.toInt + z_6179.toInt := om_5d0caf0f (ti_add ex_6254 vx_6253 rfl (om_80a5d224 pl_fM_fresh.2.2.2.2.1.1 pl_fM_fresh.2.2.2.2.1.2 cx_6178 hi0_n_6192.1) (om_65488096 pl_fM_fresh.2.1 pl_fM_fresh.2.2.1.2 pl_fM_fresh.2.2.2.2.2.1.2 cx_6178 hi0_n_6192.2))
                          refine lv_iload hx hb dX7_innerLine_149 (lv_at hl 1 rfl) ?_
                          refine va_iast hx hb hK hP hD hS 4 3 rfl rfl (ti_in vx_6254 (om_dcc527d7 pl_fM_fresh.2.2.2.2.1.1 pl_fM_fresh.2.2.2.2.1.2 cx_6178 hi0_n_6192.1) (om_1343fdf1 pl_fM_fresh.2.1 pl_fM_fresh.2.2.1.2 pl_fM_fresh.2.2.2.2.2.1.2 cx_6178 hi0_n_6192.2)) dX7_innerLine_151 (fun H locs hP hD hS => ?_)
                          obtain ⟨f_6255, ef_6255⟩ : ∃ g : Nat → Int32, g = upd f_6191 x_6254.toNatClampNeg x_6214 := ⟨_, rfl⟩
                          rw [← ef_6255] at hP hD
                          have hG := hG.trans (lt_eq ef_6255)
                          obtain ⟨hP, hD⟩ := wl2 (ws' := [(oc7 oM iM_thrown rM_tape iM_taped iM_size x_6245 x_6246 x_6247 x_6248 x_6249 z_6217 z_6218 iM_trouble rM_letters z_6216 iM_hasCourt rM_r rM_fresh rM_told rM_read rM_st rM_undone rM_kept iM_undos iM_images rM_fresher x_6175 iM_scale iM_night rM_heardRow rM_cutRow iM_breaths iM_cutMany iM_allBreaths rM_trial rM_words iM_fewestBreaths iM_orderMany iM_orderSum iM_leastOrder rM_often iM_setMany iM_someOf iM_allOf iM_allWeight iM_enoughWeight iM_worthSum iM_firstRest iM_leastDrawn), (arI rM_tape kM_tape 900 fM_tape), (arI rM_letters kM_letters 8 f_6250), (arI rM_fresh kM_fresh 287 f_6190), (arI rM_read kM_read 90 f_6255), (arI rM_fresher kM_fresher 8 f_6177)]) hP hD rfl
                          have q_n1 := ti_cl (x := f_6190 1) rfl (by omega)
                          have pk_f_6255 : POk f_6190 f_6255 := POk.prt hi2_n_6192 ef_6255 (by have q9 := ti_cl (x := x_6254) vx_6254 (om_dcc527d7 pl_fM_fresh.2.2.2.2.1.1 pl_fM_fresh.2.2.2.2.1.2 cx_6178 hi0_n_6192.1); omega) (by have q9 := ti_cl (x := x_6254) vx_6254 (om_dcc527d7 pl_fM_fresh.2.2.2.2.1.1 pl_fM_fresh.2.2.2.2.1.2 cx_6178 hi0_n_6192.1); omega)
                          refine lv_aload_n hx hb dX7_innerLine_152 rfl (lv_at hl 5 rfl) ?_
                          refine va_get (D := (dC, dI)) (ci := 7) (v := .ref rM_fresh) (C := RX7) (T := TX7) (N := 48) hx hb hts inX7 hown hK hP 0 rfl rfl 16 (by decide) (hts _ wd_156) (fun _ h9 => h9) rfl dX7_innerLine_153 ?_
                          refine lv_bipush (v := 45) hx hb dX7_innerLine_156 (by decide) ?_
                          refine lv_iconst (v := 4) hx hb dX7_innerLine_158 (by decide) ?_
                          refine lv_iload_n hx hb dX7_innerLine_159 rfl (lv_at hl 4 rfl) ?_
                          refine lv_imul hx hb dX7_innerLine_160 ?_
                          refine lv_topi (fun x_6256 ex_6256 => ?_)
                          have hG := hG.trans (lt_eq ex_6256)
                          have vx_6256 : x_6256.toInt = 4 * x_6178.toInt := ti_mul ex_6256 kc_4 rfl (om_9e6bb6a4 pl_fM_fresh.2.2.2.2.1.1 pl_fM_fresh.2.2.2.2.1.2 cx_6178) (om_7d3cae7d pl_fM_fresh.2.1 pl_fM_fresh.2.2.1.2 pl_fM_fresh.2.2.2.2.2.1.2 cx_6178)
                          refine lv_iadd hx hb dX7_innerLine_161 ?_
                          refine lv_topi (fun x_6257 ex_6257 => ?_)
                          have hG := hG.trans (lt_eq ex_6257)
                          have vx_6257 : x_6257.toInt = 4 * x_6178.toInt + 45 := om_702bf7ac (ti_add ex_6257 kc_45 vx_6256 (om_0c5ad906 pl_fM_fresh.2.2.2.2.1.1 pl_fM_fresh.2.2.2.2.1.2 cx_6178) (om_5da1924c pl_fM_fresh.2.1 pl_fM_fresh.2.2.1.2 pl_fM_fresh.2.2.2.2.2.1.2 cx_6178))
                          refine lv_iload_n hx hb dX7_innerLine_162 rfl (lv_at hl 3 rfl) ?_
                          refine lv_iadd hx hb dX7_innerLine_163 ?_
                          refine lv_topi (fun x_6258 ex_6258 => ?_)
                          have hG := hG.trans (lt_eq ex_6258)
                          have vx_6258 : x_6258.toInt = 4 * x_6178.toInt + z_6179.toInt + 45 := om_0ab12ad6 (ti_add ex_6258 vx_6257 rfl (om_563b8554 pl_fM_fresh.2.2.2.2.1.1 pl_fM_fresh.2.2.2.2.1.2 cx_6178 hi0_n_6192.1) (om_87f6ba8c pl_fM_fresh.2.1 pl_fM_fresh.2.2.1.2 pl_fM_fresh.2.2.2.2.2.1.2 cx_6178 hi0_n_6192.2))
                          refine lv_iload hx hb dX7_innerLine_164 (lv_at hl 0 rfl) ?_
                          refine va_iast hx hb hK hP hD hS 3 2 rfl rfl (ti_in vx_6258 (om_d2c9edc5 pl_fM_fresh.2.2.2.2.1.1 pl_fM_fresh.2.2.2.2.1.2 cx_6178 hi0_n_6192.1) (om_21e450b4 pl_fM_fresh.2.1 pl_fM_fresh.2.2.1.2 pl_fM_fresh.2.2.2.2.2.1.2 cx_6178 hi0_n_6192.2)) dX7_innerLine_166 (fun H locs hP hD hS => ?_)
                          obtain ⟨f_6259, ef_6259⟩ : ∃ g : Nat → Int32, g = upd f_6190 x_6258.toNatClampNeg (0 : Int32) := ⟨_, rfl⟩
                          rw [← ef_6259] at hP hD
                          have hG := hG.trans (lt_eq ef_6259)
                          obtain ⟨hP, hD⟩ := wl2 (ws' := [(oc7 oM iM_thrown rM_tape iM_taped iM_size x_6245 x_6246 x_6247 x_6248 x_6249 z_6217 z_6218 iM_trouble rM_letters z_6216 iM_hasCourt rM_r rM_fresh rM_told rM_read rM_st rM_undone rM_kept iM_undos iM_images rM_fresher x_6175 iM_scale iM_night rM_heardRow rM_cutRow iM_breaths iM_cutMany iM_allBreaths rM_trial rM_words iM_fewestBreaths iM_orderMany iM_orderSum iM_leastOrder rM_often iM_setMany iM_someOf iM_allOf iM_allWeight iM_enoughWeight iM_worthSum iM_firstRest iM_leastDrawn), (arI rM_tape kM_tape 900 fM_tape), (arI rM_letters kM_letters 8 f_6250), (arI rM_fresh kM_fresh 287 f_6259), (arI rM_read kM_read 90 f_6255), (arI rM_fresher kM_fresher 8 f_6177)]) hP hD rfl
                          have pk_f_6259 : POk f_6259 f_6255 := POk.put pk_f_6255 ef_6259 (Or.inr (Or.inr (Or.inr (Or.inr (Or.inr (Or.inl (by have q9 := ti_cl (x := x_6258) vx_6258 (om_d2c9edc5 pl_fM_fresh.2.2.2.2.1.1 pl_fM_fresh.2.2.2.2.1.2 cx_6178 hi0_n_6192.1); have q8 := kc_0; omega)))))))
                          have pl_f_6259 := pk_f_6259.lins
                          have nn9 : (f_6190 1).toNatClampNeg = x_6178.toNatClampNeg := by have q1 := ti_cl (x := x_6178) rfl (om_1ab2c227 pl_fM_fresh.2.2.2.2.1.1 pl_fM_fresh.2.2.2.2.1.2 cx_6178); have q2 := ti_cl (x := f_6190 1) rfl (by omega); have q3 := ti_cl (x := z_6179) rfl hi0_n_6192.1; omega
                          have in9 : InOk f_6259 f_6255 (f_6259 1).toNatClampNeg (z_6179.toNatClampNeg + 1) p0.toInt := in_step hi3_n_6192 rfl ef_6255 (by have q1 := ti_cl (x := x_6178) rfl (om_1ab2c227 pl_fM_fresh.2.2.2.2.1.1 pl_fM_fresh.2.2.2.2.1.2 cx_6178); have q2 := ti_cl (x := f_6190 1) rfl (by omega); have q3 := ti_cl (x := z_6179) rfl hi0_n_6192.1; have q9 := ti_cl (x := x_6254) vx_6254 (om_dcc527d7 pl_fM_fresh.2.2.2.2.1.1 pl_fM_fresh.2.2.2.2.1.2 cx_6178 hi0_n_6192.1); omega) ef_6259 (by have q1 := ti_cl (x := x_6178) rfl (om_1ab2c227 pl_fM_fresh.2.2.2.2.1.1 pl_fM_fresh.2.2.2.2.1.2 cx_6178); have q2 := ti_cl (x := f_6190 1) rfl (by omega); have q3 := ti_cl (x := z_6179) rfl hi0_n_6192.1; have q9 := ti_cl (x := x_6258) vx_6258 (om_d2c9edc5 pl_fM_fresh.2.2.2.2.1.1 pl_fM_fresh.2.2.2.2.1.2 cx_6178 hi0_n_6192.1); omega) (by omega) (by have q1 := ti_cl (x := x_6178) rfl (om_1ab2c227 pl_fM_fresh.2.2.2.2.1.1 pl_fM_fresh.2.2.2.2.1.2 cx_6178); have q2 := ti_cl (x := f_6190 1) rfl (by omega); have q3 := ti_cl (x := z_6179) rfl hi0_n_6192.1; omega) (fun i9 h9 => by rw [nn9]; exact hi2_n_6219 (by omega) i9 (by have q1 := ti_cl (x := x_6178) rfl (om_1ab2c227 pl_fM_fresh.2.2.2.2.1.1 pl_fM_fresh.2.2.2.2.1.2 cx_6178); have q2 := ti_cl (x := f_6190 1) rfl (by omega); have q3 := ti_cl (x := z_6179) rfl hi0_n_6192.1; have q4 := ti_cl (x := z_6215) rfl hi0_n_6219.1; omega)) (fun h9 => by have q0 := kc_0; omega) rfl
                          have o1_f_6259 : (f_6259 1).toInt = (f_6190 1).toInt := put_at ef_6259 (Nat.ne_of_lt (om_9b872883 (ti_cl (x := x_6258) vx_6258 (om_d2c9edc5 pl_fM_fresh.2.2.2.2.1.1 pl_fM_fresh.2.2.2.2.1.2 cx_6178 hi0_n_6192.1)) pl_fM_fresh.2.2.2.2.1.1 pl_fM_fresh.2.2.2.2.1.2 cx_6178 hi0_n_6192.1))
                          have o7_f_6259 : (f_6259 7).toInt = (f_6190 7).toInt := put_at ef_6259 (Nat.ne_of_lt (om_58da8a1c (ti_cl (x := x_6258) vx_6258 (om_d2c9edc5 pl_fM_fresh.2.2.2.2.1.1 pl_fM_fresh.2.2.2.2.1.2 cx_6178 hi0_n_6192.1)) pl_fM_fresh.2.2.2.2.1.1 pl_fM_fresh.2.2.2.2.1.2 cx_6178 hi0_n_6192.1))
                          have o8_f_6259 : (f_6259 8).toInt = (f_6190 8).toInt := put_at ef_6259 (Nat.ne_of_lt (om_f4400bad (ti_cl (x := x_6258) vx_6258 (om_d2c9edc5 pl_fM_fresh.2.2.2.2.1.1 pl_fM_fresh.2.2.2.2.1.2 cx_6178 hi0_n_6192.1)) pl_fM_fresh.2.2.2.2.1.1 pl_fM_fresh.2.2.2.2.1.2 cx_6178 hi0_n_6192.1))
                          obtain ⟨x_6260, ex_6260⟩ : ∃ z : Int32, z = z_6179 + Int32.ofInt 1 := ⟨_, rfl⟩
                          have hG := hG.trans (lt_eq ex_6260)
                          have vx_6260 : x_6260.toInt = z_6179.toInt + 1 := ti_add (y := 1) ex_6260 rfl kc_1 (om_4e4fce7e hi0_n_6192.1) (om_bae2951a hi0_n_6192.2)
                          refine lv_iinc (v := x_6260) (lv' := [(3, .int x_6260), (6, .int 0), (5, .int x_6214), (4, .int z_6180), (2, .int x_6178), (0, .ref oM), (1, .int p0)]) hx hb dX7_innerLine_167 hl (k := 3) rfl ex_6260.symm (by decide) rfl (fun ls hl => ?_)
                          refine lv_aload_n hx hb dX7_innerLine_170 rfl (lv_at hl 5 rfl) ?_
                          refine va_get (D := (dC, dI)) (ci := 7) (v := .int x_6247) (C := RX7) (T := TX7) (N := 48) hx hb hts inX7 hown hK hP 0 rfl rfl 6 (by decide) (hts _ wd_383) (fun _ h9 => h9) rfl dX7_innerLine_171 ?_
                          refine lv_bipush (v := 44) hx hb dX7_innerLine_174 (by decide) ?_
                          refine lv_icmp_ne (tgt := 183) hx hb dX7_innerLine_176 (by decide) (fun c_6261 => ?_) (fun c_6261 => ?_)
                          · skip
                            have hG := hG.trans (if_neg c_6261)
                            have gc_6261 := ti_ne c_6261 rfl kc_44
                            clear gc_6261
                            refine lv_iconst (v := 0) hx hb dX7_innerLine_183 (by decide) ?_
                            refine lv_istore (lv' := [(4, .int 0), (3, .int x_6260), (6, .int 0), (5, .int x_6214), (2, .int x_6178), (0, .ref oM), (1, .int p0)]) hx hb dX7_innerLine_184 hl (by decide) rfl (fun ls hl => ?_)
                            refine lv_iload hx hb dX7_innerLine_186 (lv_at hl 0 rfl) ?_
                            refine lv_if_eq (tgt := 195) hx hb dX7_innerLine_188 (by decide) (fun _ => ?_) (fun c => absurd c (by decide))
                            refine lv_goto (tgt := 24) hx hb dX7_innerLine_195 (by decide) ?_
                            exact ih_n_6192 x_6260 0 x_6245 x_6246 x_6247 x_6248 x_6249 z_6217 z_6218 z_6216 f_6250 f_6259 f_6255 _ _ _ b_x_6246 b_x_6249 b_z_6216 ⟨(om_83b90de5 hi0_n_6192.1 vx_6260), (om_2c69d3de gc_6244 vx_6260)⟩ ⟨(om_b1de7dbe kc_0), (om_270f4ea0 kc_0)⟩ (by assumption) (by rw [show x_6260.toNatClampNeg = z_6179.toNatClampNeg + 1 from (by have q1 := ti_cl (x := x_6260) vx_6260 (om_9548a8fd hi0_n_6192.1); have q2 := ti_cl (x := z_6179) rfl hi0_n_6192.1; omega)]; exact in9) ⟨(om_216d7917 hi4_n_6192.1 o1_f_6259), (om_216d7917 hi4_n_6192.2.1 o7_f_6259), (om_216d7917 hi4_n_6192.2.2 o8_f_6259)⟩ (fun h9 => (om_285f573d hi0_n_6192.1 vx_6260)) e_x_6245_1 (om_9348f5ae hi7_n_6192 e_x_6245_0) (fun h9 => (om_7ed234da hi7_n_6192 (e_x_6245_2 ⟨(om_02e9bb08 gc_6221), h9.2⟩))) (ms_lt hm_n_6192 (om_ed22490e vx_6260) (om_36ac28fa gc_6244)) hG hP hD hS (lv_sub hl [0, 1, 4, 5, 6] rfl)
                          · skip
                            have hG := hG.trans (if_pos c_6261)
                            have gc_6261 := ti_eq c_6261 rfl kc_44
                            refine lv_iconst (v := 1) hx hb dX7_innerLine_179 (by decide) ?_
                            refine lv_goto (tgt := 184) hx hb dX7_innerLine_180 (by decide) ?_
                            refine lv_istore (lv' := [(4, .int 1), (3, .int x_6260), (6, .int 0), (5, .int x_6214), (2, .int x_6178), (0, .ref oM), (1, .int p0)]) hx hb dX7_innerLine_184 hl (by decide) rfl (fun ls hl => ?_)
                            refine lv_iload hx hb dX7_innerLine_186 (lv_at hl 0 rfl) ?_
                            refine lv_if_eq (tgt := 195) hx hb dX7_innerLine_188 (by decide) (fun c => absurd c (by decide)) (fun _ => ?_)
                            refine lv_aload_n hx hb dX7_innerLine_191 rfl (lv_at hl 5 rfl) ?_
                            have hMs := ml_of hD [true, true, true, false, false, false] (wc := [(oc7 oM iM_thrown rM_tape iM_taped iM_size x_6245 x_6246 x_6247 x_6248 x_6249 z_6217 z_6218 iM_trouble rM_letters z_6216 iM_hasCourt rM_r rM_fresh rM_told rM_read rM_st rM_undone rM_kept iM_undos iM_images rM_fresher x_6175 iM_scale iM_night rM_heardRow rM_cutRow iM_breaths iM_cutMany iM_allBreaths rM_trial rM_words iM_fewestBreaths iM_orderMany iM_orderSum iM_leastOrder rM_often iM_setMany iM_someOf iM_allOf iM_allWeight iM_enoughWeight iM_worthSum iM_firstRest iM_leastDrawn), (arI rM_tape kM_tape 900 fM_tape), (arI rM_letters kM_letters 8 f_6250)]) rfl
                            have hFc := va_freeM hD hS hA _ hMs
                            refine va_callv (va_runV (As := []) (rest := []) ⟨hx, hb, hml, hown, hts⟩ (tX7_next l dC dI _ oM iM_thrown rM_tape fM_tape kM_tape iM_taped iM_size x_6245 x_6246 x_6247 x_6248 x_6249 z_6217 z_6218 iM_trouble rM_letters f_6250 kM_letters z_6216 iM_hasCourt rM_r rM_fresh rM_told rM_read rM_st rM_undone rM_kept iM_undos iM_images rM_fresher x_6175 iM_scale iM_night rM_heardRow rM_cutRow iM_breaths iM_cutMany iM_allBreaths rM_trial rM_words iM_fewestBreaths iM_orderMany iM_orderSum iM_leastOrder rM_often iM_setMany iM_someOf iM_allOf iM_allWeight iM_enoughWeight iM_worthSum iM_firstRest iM_leastDrawn b_iM_taped b_iM_size b_x_6246 b_x_6249 b_z_6216 b_iM_hasCourt b_iM_undos b_iM_images b_iM_scale b_iM_breaths b_iM_cutMany e_x_6245_1) (cwV 0 hts (wd_V wd_400 wd_401 wd_402 wd_5 (wd_c wd_403)) rfl rfl rfl dv_yX7_next_0 ⟨Nat.le_of_ble_eq_true rfl, Nat.le_of_ble_eq_true rfl⟩) ⟨Pw.fb, recvX7 hK hP (q0 := 0) rfl, fun U hU hW => Pw.to (hP.ms _ hMs) (hD.ms _ hMs) (hK.ms [true, true, false, false, false] rfl) hE hS hFc hU hW⟩ rfl rfl hl.1 rfl (lv_room (Nat.le_of_ble_eq_true rfl)) dX7_innerLine_192 ⟨Nat.le_of_ble_eq_true rfl, Nat.le_of_ble_eq_true rfl⟩) hS (fun q _ h => hFc q h) hFc (fun u t H locs ht hvm hw hB hz1 hk1 hS => ?_)
                            refine ex_6_6 hB (fun x_6264 x_6265 x_6266 x_6267 x_6268 f_6269 b_x_6265 b_x_6268 e_x_6264_0 e_x_6264_1 e_x_6264_2 e_x_6264_3 hB => ?_)
                            obtain ⟨hP, hD⟩ := Bw.goN (ws' := [(oc7 oM iM_thrown rM_tape iM_taped iM_size x_6264 x_6265 x_6266 x_6267 x_6268 z_6217 z_6218 iM_trouble rM_letters z_6216 iM_hasCourt rM_r rM_fresh rM_told rM_read rM_st rM_undone rM_kept iM_undos iM_images rM_fresher x_6175 iM_scale iM_night rM_heardRow rM_cutRow iM_breaths iM_cutMany iM_allBreaths rM_trial rM_words iM_fewestBreaths iM_orderMany iM_orderSum iM_leastOrder rM_often iM_setMany iM_someOf iM_allOf iM_allWeight iM_enoughWeight iM_worthSum iM_firstRest iM_leastDrawn), (arI rM_tape kM_tape 900 fM_tape), (arI rM_letters kM_letters 8 f_6269), (arI rM_fresh kM_fresh 287 f_6259), (arI rM_read kM_read 90 f_6255), (arI rM_fresher kM_fresher 8 f_6177)]) hB rfl ht hP hD _ hMs hk1 hFc rfl
                            clear hz1 hk1 hvm ht hB hMs
                            have hG := hG.trans (un6_eq e_x_6264_3)
                            clear e_x_6245_1
                            clear e_x_6245_2
                            refine lv_goto (tgt := 24) hx hb dX7_innerLine_195 (by decide) ?_
                            exact ih_n_6192 x_6260 1 x_6264 x_6265 x_6266 x_6267 x_6268 z_6217 z_6218 z_6216 f_6269 f_6259 f_6255 _ _ _ b_x_6265 b_x_6268 b_z_6216 ⟨(om_83b90de5 hi0_n_6192.1 vx_6260), (om_2c69d3de gc_6244 vx_6260)⟩ ⟨(om_1b364b1c kc_1), (om_02032f93 kc_1)⟩ (by assumption) (by rw [show x_6260.toNatClampNeg = z_6179.toNatClampNeg + 1 from (by have q1 := ti_cl (x := x_6260) vx_6260 (om_9548a8fd hi0_n_6192.1); have q2 := ti_cl (x := z_6179) rfl hi0_n_6192.1; omega)]; exact in9) ⟨(om_216d7917 hi4_n_6192.1 o1_f_6259), (om_216d7917 hi4_n_6192.2.1 o7_f_6259), (om_216d7917 hi4_n_6192.2.2 o8_f_6259)⟩ (fun h9 => (om_285f573d hi0_n_6192.1 vx_6260)) e_x_6264_1 (om_622f2a87 hi7_n_6192 e_x_6245_0 e_x_6264_0) (fun h9 => (om_2d38588c hi7_n_6192 e_x_6245_0 (e_x_6264_2 h9.2))) (ms_lt hm_n_6192 (om_ed22490e vx_6260) (om_36ac28fa gc_6244)) hG hP hD hS (lv_sub hl [0, 1, 4, 5, 6] rfl)
                        · skip
                          have hG := hG.trans (if_neg c_6252)
                          have gc_6252 := ti_ne c_6252 rfl kc_0
                          replace gc_6252 : z_6216.toInt + 1 ≤ 0 := om_f992525b gc_6252 gc_6221
                          exact ((om_5185113d b_z_6216.1 gc_6252)).elim
                      · skip
                        have hG := hG.trans (if_pos c_6251)
                        have gc_6251 := ti_eq c_6251 rfl kc_3
                        have h_6270 : (fM_fresh 8).toInt ≤ 1 := hic ⟨(om_02e9bb08 gc_6165), (om_ce492ef9 hp0.2 gc_6251)⟩
                        clear hic
                        refine lv_aload_n hx hb dX7_innerLine_119 rfl (lv_at hl 5 rfl) ?_
                        refine lv_iconst (v := 1) hx hb dX7_innerLine_120 (by decide) ?_
                        refine lv_bipush (v := 9) hx hb dX7_innerLine_121 (by decide) ?_
                        have hMs := ml_of hD [true, true, true, false, false, false] (wc := [(oc7 oM iM_thrown rM_tape iM_taped iM_size x_6245 x_6246 x_6247 x_6248 x_6249 z_6217 z_6218 iM_trouble rM_letters z_6216 iM_hasCourt rM_r rM_fresh rM_told rM_read rM_st rM_undone rM_kept iM_undos iM_images rM_fresher x_6175 iM_scale iM_night rM_heardRow rM_cutRow iM_breaths iM_cutMany iM_allBreaths rM_trial rM_words iM_fewestBreaths iM_orderMany iM_orderSum iM_leastOrder rM_often iM_setMany iM_someOf iM_allOf iM_allWeight iM_enoughWeight iM_worthSum iM_firstRest iM_leastDrawn), (arI rM_tape kM_tape 900 fM_tape), (arI rM_letters kM_letters 8 f_6250)]) rfl
                        have hFc := va_freeM hD hS hA _ hMs
                        refine va_calli (va_runV (As := [.int 1, .int 9]) (rest := []) ⟨hx, hb, hml, hown, hts⟩ (tX7_number l dC dI _ oM iM_thrown rM_tape fM_tape kM_tape iM_taped iM_size x_6245 x_6246 x_6247 x_6248 x_6249 z_6217 z_6218 iM_trouble rM_letters f_6250 kM_letters z_6216 iM_hasCourt rM_r rM_fresh rM_told rM_read rM_st rM_undone rM_kept iM_undos iM_images rM_fresher x_6175 iM_scale iM_night rM_heardRow rM_cutRow iM_breaths iM_cutMany iM_allBreaths rM_trial rM_words iM_fewestBreaths iM_orderMany iM_orderSum iM_leastOrder rM_often iM_setMany iM_someOf iM_allOf iM_allWeight iM_enoughWeight iM_worthSum iM_firstRest iM_leastDrawn 1 9 b_iM_taped b_iM_size b_x_6246 b_x_6249 b_z_6216 b_iM_hasCourt b_iM_undos b_iM_images b_iM_scale b_iM_breaths b_iM_cutMany e_x_6245_1 (om_dc317686 kc_1 kc_9)) (cwV 2 hts (wd_V wd_446 wd_447 wd_448 wd_5 (wd_c wd_449)) rfl rfl rfl dv_yX7_number_2 ⟨Nat.le_of_ble_eq_true rfl, Nat.le_of_ble_eq_true rfl⟩) ⟨Pw.fb, recvX7 hK hP (q0 := 0) rfl, fun U hU hW => Pw.to (hP.ms _ hMs) (hD.ms _ hMs) (hK.ms [true, true, false, false, false] rfl) hE hS hFc hU hW⟩ rfl rfl hl.1 rfl (lv_room (Nat.le_of_ble_eq_true rfl)) dX7_innerLine_123 ⟨Nat.le_of_ble_eq_true rfl, Nat.le_of_ble_eq_true rfl⟩) hS (fun q _ h => hFc q h) hFc (fun r u t H locs ht hvm hw hB hz1 hk1 hS => ?_)
                        have hru9 := hw.2
                        have hw := hw.1
                        refine ex_9_8 hB (fun x_6271 x_6272 x_6273 x_6274 x_6275 x_6276 x_6277 x_6278 f_6279 b_x_6272 b_x_6275 b_x_6278 e_x_6271_0 e_x_6271_1 e_x_6271_2 e_x_6271_3 e_x_6271_4 hB => ?_)
                        obtain ⟨hP, hD⟩ := Bw.goN (ws' := [(oc7 oM iM_thrown rM_tape iM_taped iM_size x_6271 x_6272 x_6273 x_6274 x_6275 x_6276 x_6277 iM_trouble rM_letters x_6278 iM_hasCourt rM_r rM_fresh rM_told rM_read rM_st rM_undone rM_kept iM_undos iM_images rM_fresher x_6175 iM_scale iM_night rM_heardRow rM_cutRow iM_breaths iM_cutMany iM_allBreaths rM_trial rM_words iM_fewestBreaths iM_orderMany iM_orderSum iM_leastOrder rM_often iM_setMany iM_someOf iM_allOf iM_allWeight iM_enoughWeight iM_worthSum iM_firstRest iM_leastDrawn), (arI rM_tape kM_tape 900 fM_tape), (arI rM_letters kM_letters 8 f_6279), (arI rM_fresh kM_fresh 287 f_6190), (arI rM_read kM_read 90 f_6191), (arI rM_fresher kM_fresher 8 f_6177)]) hB rfl ht hP hD _ hMs hk1 hFc rfl
                        clear hz1 hk1 hvm ht hB hMs
                        rw [← hru9] at e_x_6271_4
                        obtain ⟨x_6280, rfl⟩ : ∃ z, z = r := ⟨_, rfl⟩
                        have hG := hG.trans (un10_eq e_x_6271_4)
                        have lx_6280 := hw.2
                        have kl_1 := kc_1
                        have kl_9 := kc_9
                        clear e_x_6245_1
                        clear e_x_6245_2
                        refine lv_goto (tgt := 130) hx hb dX7_innerLine_126 (by decide) ?_
                        refine lv_istore (lv' := [(6, .int x_6280), (5, .int x_6214), (4, .int z_6180), (3, .int z_6179), (2, .int x_6178), (0, .ref oM), (1, .int p0)]) hx hb dX7_innerLine_130 hl (by decide) rfl (fun ls hl => ?_)
                        refine lv_aload_n hx hb dX7_innerLine_132 rfl (lv_at hl 5 rfl) ?_
                        refine va_get (D := (dC, dI)) (ci := 7) (v := .int x_6278) (C := RX7) (T := TX7) (N := 48) hx hb hts inX7 hown hK hP 0 rfl rfl 13 (by decide) (hts _ wd_380) (fun _ h9 => h9) rfl dX7_innerLine_133 ?_
                        refine lv_if_eq (tgt := 140) hx hb dX7_innerLine_136 (by decide) (fun c_6281 => ?_) (fun c_6281 => ?_)
                        · skip
                          have hG := hG.trans (if_pos c_6281)
                          have gc_6281 := ti_eq c_6281 rfl kc_0
                          refine lv_aload_n hx hb dX7_innerLine_140 rfl (lv_at hl 5 rfl) ?_
                          refine va_get (D := (dC, dI)) (ci := 7) (v := .ref rM_read) (C := RX7) (T := TX7) (N := 48) hx hb hts inX7 hown hK hP 0 rfl rfl 18 (by decide) (hts _ wd_158) (fun _ h9 => h9) rfl dX7_innerLine_141 ?_
                          refine lv_iconst (v := 4) hx hb dX7_innerLine_144 (by decide) ?_
                          refine lv_iload_n hx hb dX7_innerLine_145 rfl (lv_at hl 4 rfl) ?_
                          refine lv_imul hx hb dX7_innerLine_146 ?_
                          refine lv_topi (fun x_6282 ex_6282 => ?_)
                          have hG := hG.trans (lt_eq ex_6282)
                          have vx_6282 : x_6282.toInt = 4 * x_6178.toInt := ti_mul ex_6282 kc_4 rfl (om_9e6bb6a4 pl_fM_fresh.2.2.2.2.1.1 pl_fM_fresh.2.2.2.2.1.2 cx_6178) (om_7d3cae7d pl_fM_fresh.2.1 pl_fM_fresh.2.2.1.2 pl_fM_fresh.2.2.2.2.2.1.2 cx_6178)
                          refine lv_iload_n hx hb dX7_innerLine_147 rfl (lv_at hl 3 rfl) ?_
                          refine lv_iadd hx hb dX7_innerLine_148 ?_
                          refine lv_topi (fun x_6283 ex_6283 => ?_)
                          have hG := hG.trans (lt_eq ex_6283)
                          have vx_6283 : x_6283.toInt = 4 * x_6178.toInt + z_6179.toInt := om_5d0caf0f (ti_add ex_6283 vx_6282 rfl (om_80a5d224 pl_fM_fresh.2.2.2.2.1.1 pl_fM_fresh.2.2.2.2.1.2 cx_6178 hi0_n_6192.1) (om_65488096 pl_fM_fresh.2.1 pl_fM_fresh.2.2.1.2 pl_fM_fresh.2.2.2.2.2.1.2 cx_6178 hi0_n_6192.2))
                          refine lv_iload hx hb dX7_innerLine_149 (lv_at hl 1 rfl) ?_
                          refine va_iast hx hb hK hP hD hS 4 3 rfl rfl (ti_in vx_6283 (om_dcc527d7 pl_fM_fresh.2.2.2.2.1.1 pl_fM_fresh.2.2.2.2.1.2 cx_6178 hi0_n_6192.1) (om_1343fdf1 pl_fM_fresh.2.1 pl_fM_fresh.2.2.1.2 pl_fM_fresh.2.2.2.2.2.1.2 cx_6178 hi0_n_6192.2)) dX7_innerLine_151 (fun H locs hP hD hS => ?_)
                          obtain ⟨f_6284, ef_6284⟩ : ∃ g : Nat → Int32, g = upd f_6191 x_6283.toNatClampNeg x_6214 := ⟨_, rfl⟩
                          rw [← ef_6284] at hP hD
                          have hG := hG.trans (lt_eq ef_6284)
                          obtain ⟨hP, hD⟩ := wl2 (ws' := [(oc7 oM iM_thrown rM_tape iM_taped iM_size x_6271 x_6272 x_6273 x_6274 x_6275 x_6276 x_6277 iM_trouble rM_letters x_6278 iM_hasCourt rM_r rM_fresh rM_told rM_read rM_st rM_undone rM_kept iM_undos iM_images rM_fresher x_6175 iM_scale iM_night rM_heardRow rM_cutRow iM_breaths iM_cutMany iM_allBreaths rM_trial rM_words iM_fewestBreaths iM_orderMany iM_orderSum iM_leastOrder rM_often iM_setMany iM_someOf iM_allOf iM_allWeight iM_enoughWeight iM_worthSum iM_firstRest iM_leastDrawn), (arI rM_tape kM_tape 900 fM_tape), (arI rM_letters kM_letters 8 f_6279), (arI rM_fresh kM_fresh 287 f_6190), (arI rM_read kM_read 90 f_6284), (arI rM_fresher kM_fresher 8 f_6177)]) hP hD rfl
                          have q_n1 := ti_cl (x := f_6190 1) rfl (by omega)
                          have pk_f_6284 : POk f_6190 f_6284 := POk.prt hi2_n_6192 ef_6284 (by have q9 := ti_cl (x := x_6283) vx_6283 (om_dcc527d7 pl_fM_fresh.2.2.2.2.1.1 pl_fM_fresh.2.2.2.2.1.2 cx_6178 hi0_n_6192.1); omega) (by have q9 := ti_cl (x := x_6283) vx_6283 (om_dcc527d7 pl_fM_fresh.2.2.2.2.1.1 pl_fM_fresh.2.2.2.2.1.2 cx_6178 hi0_n_6192.1); omega)
                          refine lv_aload_n hx hb dX7_innerLine_152 rfl (lv_at hl 5 rfl) ?_
                          refine va_get (D := (dC, dI)) (ci := 7) (v := .ref rM_fresh) (C := RX7) (T := TX7) (N := 48) hx hb hts inX7 hown hK hP 0 rfl rfl 16 (by decide) (hts _ wd_156) (fun _ h9 => h9) rfl dX7_innerLine_153 ?_
                          refine lv_bipush (v := 45) hx hb dX7_innerLine_156 (by decide) ?_
                          refine lv_iconst (v := 4) hx hb dX7_innerLine_158 (by decide) ?_
                          refine lv_iload_n hx hb dX7_innerLine_159 rfl (lv_at hl 4 rfl) ?_
                          refine lv_imul hx hb dX7_innerLine_160 ?_
                          refine lv_topi (fun x_6285 ex_6285 => ?_)
                          have hG := hG.trans (lt_eq ex_6285)
                          have vx_6285 : x_6285.toInt = 4 * x_6178.toInt := ti_mul ex_6285 kc_4 rfl (om_9e6bb6a4 pl_fM_fresh.2.2.2.2.1.1 pl_fM_fresh.2.2.2.2.1.2 cx_6178) (om_7d3cae7d pl_fM_fresh.2.1 pl_fM_fresh.2.2.1.2 pl_fM_fresh.2.2.2.2.2.1.2 cx_6178)
                          refine lv_iadd hx hb dX7_innerLine_161 ?_
                          refine lv_topi (fun x_6286 ex_6286 => ?_)
                          have hG := hG.trans (lt_eq ex_6286)
                          have vx_6286 : x_6286.toInt = 4 * x_6178.toInt + 45 := om_702bf7ac (ti_add ex_6286 kc_45 vx_6285 (om_0c5ad906 pl_fM_fresh.2.2.2.2.1.1 pl_fM_fresh.2.2.2.2.1.2 cx_6178) (om_5da1924c pl_fM_fresh.2.1 pl_fM_fresh.2.2.1.2 pl_fM_fresh.2.2.2.2.2.1.2 cx_6178))
                          refine lv_iload_n hx hb dX7_innerLine_162 rfl (lv_at hl 3 rfl) ?_
                          refine lv_iadd hx hb dX7_innerLine_163 ?_
                          refine lv_topi (fun x_6287 ex_6287 => ?_)
                          have hG := hG.trans (lt_eq ex_6287)
                          have vx_6287 : x_6287.toInt = 4 * x_6178.toInt + z_6179.toInt + 45 := om_0ab12ad6 (ti_add ex_6287 vx_6286 rfl (om_563b8554 pl_fM_fresh.2.2.2.2.1.1 pl_fM_fresh.2.2.2.2.1.2 cx_6178 hi0_n_6192.1) (om_87f6ba8c pl_fM_fresh.2.1 pl_fM_fresh.2.2.1.2 pl_fM_fresh.2.2.2.2.2.1.2 cx_6178 hi0_n_6192.2))
                          refine lv_iload hx hb dX7_innerLine_164 (lv_at hl 0 rfl) ?_
                          refine va_iast hx hb hK hP hD hS 3 2 rfl rfl (ti_in vx_6287 (om_d2c9edc5 pl_fM_fresh.2.2.2.2.1.1 pl_fM_fresh.2.2.2.2.1.2 cx_6178 hi0_n_6192.1) (om_21e450b4 pl_fM_fresh.2.1 pl_fM_fresh.2.2.1.2 pl_fM_fresh.2.2.2.2.2.1.2 cx_6178 hi0_n_6192.2)) dX7_innerLine_166 (fun H locs hP hD hS => ?_)
                          obtain ⟨f_6288, ef_6288⟩ : ∃ g : Nat → Int32, g = upd f_6190 x_6287.toNatClampNeg x_6280 := ⟨_, rfl⟩
                          rw [← ef_6288] at hP hD
                          have hG := hG.trans (lt_eq ef_6288)
                          obtain ⟨hP, hD⟩ := wl2 (ws' := [(oc7 oM iM_thrown rM_tape iM_taped iM_size x_6271 x_6272 x_6273 x_6274 x_6275 x_6276 x_6277 iM_trouble rM_letters x_6278 iM_hasCourt rM_r rM_fresh rM_told rM_read rM_st rM_undone rM_kept iM_undos iM_images rM_fresher x_6175 iM_scale iM_night rM_heardRow rM_cutRow iM_breaths iM_cutMany iM_allBreaths rM_trial rM_words iM_fewestBreaths iM_orderMany iM_orderSum iM_leastOrder rM_often iM_setMany iM_someOf iM_allOf iM_allWeight iM_enoughWeight iM_worthSum iM_firstRest iM_leastDrawn), (arI rM_tape kM_tape 900 fM_tape), (arI rM_letters kM_letters 8 f_6279), (arI rM_fresh kM_fresh 287 f_6288), (arI rM_read kM_read 90 f_6284), (arI rM_fresher kM_fresher 8 f_6177)]) hP hD rfl
                          have pk_f_6288 : POk f_6288 f_6284 := POk.put pk_f_6284 ef_6288 (Or.inr (Or.inr (Or.inr (Or.inr (Or.inr (Or.inl (by have q9 := ti_cl (x := x_6287) vx_6287 (om_d2c9edc5 pl_fM_fresh.2.2.2.2.1.1 pl_fM_fresh.2.2.2.2.1.2 cx_6178 hi0_n_6192.1); omega)))))))
                          have pl_f_6288 := pk_f_6288.lins
                          have nn9 : (f_6190 1).toNatClampNeg = x_6178.toNatClampNeg := by have q1 := ti_cl (x := x_6178) rfl (om_1ab2c227 pl_fM_fresh.2.2.2.2.1.1 pl_fM_fresh.2.2.2.2.1.2 cx_6178); have q2 := ti_cl (x := f_6190 1) rfl (by omega); have q3 := ti_cl (x := z_6179) rfl hi0_n_6192.1; omega
                          have in9 : InOk f_6288 f_6284 (f_6288 1).toNatClampNeg (z_6179.toNatClampNeg + 1) p0.toInt := in_step hi3_n_6192 rfl ef_6284 (by have q1 := ti_cl (x := x_6178) rfl (om_1ab2c227 pl_fM_fresh.2.2.2.2.1.1 pl_fM_fresh.2.2.2.2.1.2 cx_6178); have q2 := ti_cl (x := f_6190 1) rfl (by omega); have q3 := ti_cl (x := z_6179) rfl hi0_n_6192.1; have q9 := ti_cl (x := x_6283) vx_6283 (om_dcc527d7 pl_fM_fresh.2.2.2.2.1.1 pl_fM_fresh.2.2.2.2.1.2 cx_6178 hi0_n_6192.1); omega) ef_6288 (by have q1 := ti_cl (x := x_6178) rfl (om_1ab2c227 pl_fM_fresh.2.2.2.2.1.1 pl_fM_fresh.2.2.2.2.1.2 cx_6178); have q2 := ti_cl (x := f_6190 1) rfl (by omega); have q3 := ti_cl (x := z_6179) rfl hi0_n_6192.1; have q9 := ti_cl (x := x_6287) vx_6287 (om_d2c9edc5 pl_fM_fresh.2.2.2.2.1.1 pl_fM_fresh.2.2.2.2.1.2 cx_6178 hi0_n_6192.1); omega) (by omega) (by have q1 := ti_cl (x := x_6178) rfl (om_1ab2c227 pl_fM_fresh.2.2.2.2.1.1 pl_fM_fresh.2.2.2.2.1.2 cx_6178); have q2 := ti_cl (x := f_6190 1) rfl (by omega); have q3 := ti_cl (x := z_6179) rfl hi0_n_6192.1; omega) (fun i9 h9 => by rw [nn9]; exact hi2_n_6219 (by omega) i9 (by have q1 := ti_cl (x := x_6178) rfl (om_1ab2c227 pl_fM_fresh.2.2.2.2.1.1 pl_fM_fresh.2.2.2.2.1.2 cx_6178); have q2 := ti_cl (x := f_6190 1) rfl (by omega); have q3 := ti_cl (x := z_6179) rfl hi0_n_6192.1; have q4 := ti_cl (x := z_6215) rfl hi0_n_6219.1; omega)) (fun h9 => by have q0 := kc_0; omega) rfl
                          have o1_f_6288 : (f_6288 1).toInt = (f_6190 1).toInt := put_at ef_6288 (Nat.ne_of_lt (om_9b872883 (ti_cl (x := x_6287) vx_6287 (om_d2c9edc5 pl_fM_fresh.2.2.2.2.1.1 pl_fM_fresh.2.2.2.2.1.2 cx_6178 hi0_n_6192.1)) pl_fM_fresh.2.2.2.2.1.1 pl_fM_fresh.2.2.2.2.1.2 cx_6178 hi0_n_6192.1))
                          have o7_f_6288 : (f_6288 7).toInt = (f_6190 7).toInt := put_at ef_6288 (Nat.ne_of_lt (om_58da8a1c (ti_cl (x := x_6287) vx_6287 (om_d2c9edc5 pl_fM_fresh.2.2.2.2.1.1 pl_fM_fresh.2.2.2.2.1.2 cx_6178 hi0_n_6192.1)) pl_fM_fresh.2.2.2.2.1.1 pl_fM_fresh.2.2.2.2.1.2 cx_6178 hi0_n_6192.1))
                          have o8_f_6288 : (f_6288 8).toInt = (f_6190 8).toInt := put_at ef_6288 (Nat.ne_of_lt (om_f4400bad (ti_cl (x := x_6287) vx_6287 (om_d2c9edc5 pl_fM_fresh.2.2.2.2.1.1 pl_fM_fresh.2.2.2.2.1.2 cx_6178 hi0_n_6192.1)) pl_fM_fresh.2.2.2.2.1.1 pl_fM_fresh.2.2.2.2.1.2 cx_6178 hi0_n_6192.1))
                          obtain ⟨x_6289, ex_6289⟩ : ∃ z : Int32, z = z_6179 + Int32.ofInt 1 := ⟨_, rfl⟩
                          have hG := hG.trans (lt_eq ex_6289)
                          have vx_6289 : x_6289.toInt = z_6179.toInt + 1 := ti_add (y := 1) ex_6289 rfl kc_1 (om_4e4fce7e hi0_n_6192.1) (om_bae2951a hi0_n_6192.2)
                          refine lv_iinc (v := x_6289) (lv' := [(3, .int x_6289), (6, .int x_6280), (5, .int x_6214), (4, .int z_6180), (2, .int x_6178), (0, .ref oM), (1, .int p0)]) hx hb dX7_innerLine_167 hl (k := 3) rfl ex_6289.symm (by decide) rfl (fun ls hl => ?_)
                          refine lv_aload_n hx hb dX7_innerLine_170 rfl (lv_at hl 5 rfl) ?_
                          refine va_get (D := (dC, dI)) (ci := 7) (v := .int x_6273) (C := RX7) (T := TX7) (N := 48) hx hb hts inX7 hown hK hP 0 rfl rfl 6 (by decide) (hts _ wd_383) (fun _ h9 => h9) rfl dX7_innerLine_171 ?_
                          refine lv_bipush (v := 44) hx hb dX7_innerLine_174 (by decide) ?_
                          refine lv_icmp_ne (tgt := 183) hx hb dX7_innerLine_176 (by decide) (fun c_6290 => ?_) (fun c_6290 => ?_)
                          · skip
                            have hG := hG.trans (if_neg c_6290)
                            have gc_6290 := ti_ne c_6290 rfl kc_44
                            clear gc_6290
                            refine lv_iconst (v := 0) hx hb dX7_innerLine_183 (by decide) ?_
                            refine lv_istore (lv' := [(4, .int 0), (3, .int x_6289), (6, .int x_6280), (5, .int x_6214), (2, .int x_6178), (0, .ref oM), (1, .int p0)]) hx hb dX7_innerLine_184 hl (by decide) rfl (fun ls hl => ?_)
                            refine lv_iload hx hb dX7_innerLine_186 (lv_at hl 0 rfl) ?_
                            refine lv_if_eq (tgt := 195) hx hb dX7_innerLine_188 (by decide) (fun _ => ?_) (fun c => absurd c (by decide))
                            refine lv_goto (tgt := 24) hx hb dX7_innerLine_195 (by decide) ?_
                            exact ih_n_6192 x_6289 0 x_6271 x_6272 x_6273 x_6274 x_6275 x_6276 x_6277 x_6278 f_6279 f_6288 f_6284 _ _ _ b_x_6272 b_x_6275 b_x_6278 ⟨(om_83b90de5 hi0_n_6192.1 vx_6289), (om_2c69d3de gc_6244 vx_6289)⟩ ⟨(om_b1de7dbe kc_0), (om_270f4ea0 kc_0)⟩ (by assumption) (by rw [show x_6289.toNatClampNeg = z_6179.toNatClampNeg + 1 from (by have q1 := ti_cl (x := x_6289) vx_6289 (om_9548a8fd hi0_n_6192.1); have q2 := ti_cl (x := z_6179) rfl hi0_n_6192.1; omega)]; exact in9) ⟨(om_216d7917 hi4_n_6192.1 o1_f_6288), (om_216d7917 hi4_n_6192.2.1 o7_f_6288), (om_216d7917 hi4_n_6192.2.2 o8_f_6288)⟩ (fun h9 => (om_285f573d hi0_n_6192.1 vx_6289)) e_x_6271_1 (om_622f2a87 hi7_n_6192 e_x_6245_0 e_x_6271_0) (fun h9 => (om_2d38588c hi7_n_6192 e_x_6245_0 (e_x_6271_3 ⟨(om_02e9bb08 gc_6281), h9.2⟩))) (ms_lt hm_n_6192 (om_ed22490e vx_6289) (om_36ac28fa gc_6244)) hG hP hD hS (lv_sub hl [0, 1, 4, 5, 6] rfl)
                          · skip
                            have hG := hG.trans (if_pos c_6290)
                            have gc_6290 := ti_eq c_6290 rfl kc_44
                            refine lv_iconst (v := 1) hx hb dX7_innerLine_179 (by decide) ?_
                            refine lv_goto (tgt := 184) hx hb dX7_innerLine_180 (by decide) ?_
                            refine lv_istore (lv' := [(4, .int 1), (3, .int x_6289), (6, .int x_6280), (5, .int x_6214), (2, .int x_6178), (0, .ref oM), (1, .int p0)]) hx hb dX7_innerLine_184 hl (by decide) rfl (fun ls hl => ?_)
                            refine lv_iload hx hb dX7_innerLine_186 (lv_at hl 0 rfl) ?_
                            refine lv_if_eq (tgt := 195) hx hb dX7_innerLine_188 (by decide) (fun c => absurd c (by decide)) (fun _ => ?_)
                            refine lv_aload_n hx hb dX7_innerLine_191 rfl (lv_at hl 5 rfl) ?_
                            have hMs := ml_of hD [true, true, true, false, false, false] (wc := [(oc7 oM iM_thrown rM_tape iM_taped iM_size x_6271 x_6272 x_6273 x_6274 x_6275 x_6276 x_6277 iM_trouble rM_letters x_6278 iM_hasCourt rM_r rM_fresh rM_told rM_read rM_st rM_undone rM_kept iM_undos iM_images rM_fresher x_6175 iM_scale iM_night rM_heardRow rM_cutRow iM_breaths iM_cutMany iM_allBreaths rM_trial rM_words iM_fewestBreaths iM_orderMany iM_orderSum iM_leastOrder rM_often iM_setMany iM_someOf iM_allOf iM_allWeight iM_enoughWeight iM_worthSum iM_firstRest iM_leastDrawn), (arI rM_tape kM_tape 900 fM_tape), (arI rM_letters kM_letters 8 f_6279)]) rfl
                            have hFc := va_freeM hD hS hA _ hMs
                            refine va_callv (va_runV (As := []) (rest := []) ⟨hx, hb, hml, hown, hts⟩ (tX7_next l dC dI _ oM iM_thrown rM_tape fM_tape kM_tape iM_taped iM_size x_6271 x_6272 x_6273 x_6274 x_6275 x_6276 x_6277 iM_trouble rM_letters f_6279 kM_letters x_6278 iM_hasCourt rM_r rM_fresh rM_told rM_read rM_st rM_undone rM_kept iM_undos iM_images rM_fresher x_6175 iM_scale iM_night rM_heardRow rM_cutRow iM_breaths iM_cutMany iM_allBreaths rM_trial rM_words iM_fewestBreaths iM_orderMany iM_orderSum iM_leastOrder rM_often iM_setMany iM_someOf iM_allOf iM_allWeight iM_enoughWeight iM_worthSum iM_firstRest iM_leastDrawn b_iM_taped b_iM_size b_x_6272 b_x_6275 b_x_6278 b_iM_hasCourt b_iM_undos b_iM_images b_iM_scale b_iM_breaths b_iM_cutMany e_x_6271_1) (cwV 0 hts (wd_V wd_400 wd_401 wd_402 wd_5 (wd_c wd_403)) rfl rfl rfl dv_yX7_next_0 ⟨Nat.le_of_ble_eq_true rfl, Nat.le_of_ble_eq_true rfl⟩) ⟨Pw.fb, recvX7 hK hP (q0 := 0) rfl, fun U hU hW => Pw.to (hP.ms _ hMs) (hD.ms _ hMs) (hK.ms [true, true, false, false, false] rfl) hE hS hFc hU hW⟩ rfl rfl hl.1 rfl (lv_room (Nat.le_of_ble_eq_true rfl)) dX7_innerLine_192 ⟨Nat.le_of_ble_eq_true rfl, Nat.le_of_ble_eq_true rfl⟩) hS (fun q _ h => hFc q h) hFc (fun u t H locs ht hvm hw hB hz1 hk1 hS => ?_)
                            refine ex_6_6 hB (fun x_6293 x_6294 x_6295 x_6296 x_6297 f_6298 b_x_6294 b_x_6297 e_x_6293_0 e_x_6293_1 e_x_6293_2 e_x_6293_3 hB => ?_)
                            obtain ⟨hP, hD⟩ := Bw.goN (ws' := [(oc7 oM iM_thrown rM_tape iM_taped iM_size x_6293 x_6294 x_6295 x_6296 x_6297 x_6276 x_6277 iM_trouble rM_letters x_6278 iM_hasCourt rM_r rM_fresh rM_told rM_read rM_st rM_undone rM_kept iM_undos iM_images rM_fresher x_6175 iM_scale iM_night rM_heardRow rM_cutRow iM_breaths iM_cutMany iM_allBreaths rM_trial rM_words iM_fewestBreaths iM_orderMany iM_orderSum iM_leastOrder rM_often iM_setMany iM_someOf iM_allOf iM_allWeight iM_enoughWeight iM_worthSum iM_firstRest iM_leastDrawn), (arI rM_tape kM_tape 900 fM_tape), (arI rM_letters kM_letters 8 f_6298), (arI rM_fresh kM_fresh 287 f_6288), (arI rM_read kM_read 90 f_6284), (arI rM_fresher kM_fresher 8 f_6177)]) hB rfl ht hP hD _ hMs hk1 hFc rfl
                            clear hz1 hk1 hvm ht hB hMs
                            have hG := hG.trans (un6_eq e_x_6293_3)
                            clear e_x_6271_1
                            clear e_x_6271_3
                            refine lv_goto (tgt := 24) hx hb dX7_innerLine_195 (by decide) ?_
                            exact ih_n_6192 x_6289 1 x_6293 x_6294 x_6295 x_6296 x_6297 x_6276 x_6277 x_6278 f_6298 f_6288 f_6284 _ _ _ b_x_6294 b_x_6297 b_x_6278 ⟨(om_83b90de5 hi0_n_6192.1 vx_6289), (om_2c69d3de gc_6244 vx_6289)⟩ ⟨(om_1b364b1c kc_1), (om_02032f93 kc_1)⟩ (by assumption) (by rw [show x_6289.toNatClampNeg = z_6179.toNatClampNeg + 1 from (by have q1 := ti_cl (x := x_6289) vx_6289 (om_9548a8fd hi0_n_6192.1); have q2 := ti_cl (x := z_6179) rfl hi0_n_6192.1; omega)]; exact in9) ⟨(om_216d7917 hi4_n_6192.1 o1_f_6288), (om_216d7917 hi4_n_6192.2.1 o7_f_6288), (om_216d7917 hi4_n_6192.2.2 o8_f_6288)⟩ (fun h9 => (om_285f573d hi0_n_6192.1 vx_6289)) e_x_6293_1 (om_dc41b317 hi7_n_6192 e_x_6245_0 e_x_6271_0 e_x_6293_0) (fun h9 => (om_67b34c44 hi7_n_6192 e_x_6245_0 e_x_6271_0 (e_x_6293_2 h9.2))) (ms_lt hm_n_6192 (om_ed22490e vx_6289) (om_36ac28fa gc_6244)) hG hP hD hS (lv_sub hl [0, 1, 4, 5, 6] rfl)
                        · skip
                          have hG := hG.trans (if_neg c_6281)
                          have gc_6281 := ti_ne c_6281 rfl kc_0
                          replace gc_6281 : (-1) * x_6278.toInt + 1 ≤ 0 := om_e3003f79 gc_6281 b_x_6278.1
                          exact wq_v hx hb hr 0 trivial (fun t ht hW => ⟨x_6271, x_6272, x_6273, x_6274, x_6275, x_6276, x_6277, x_6278, x_6175, f_6279, f_6190, f_6191, f_6177, b_x_6272, b_x_6275, b_x_6278, (om_622f2a87 hi7_n_6192 e_x_6245_0 e_x_6271_0), e_x_6271_1, (om_1fc3dec6 gc_6165 b_x_6278.1), (fun h9 => False.elim (om_a5fe015d gc_6281 h9.1)), hi2_n_6192, hG, Bw.to hP hD hK ht hW⟩) hS dX7_innerLine_139 hlocks
                    · skip
                      have hG := hG.trans (if_pos c_6244)
                      have gc_6244 := ti_eq c_6244 rfl kc_4
                      refine lv_aload_n hx hb dX7_innerLine_101 rfl (lv_at hl 5 rfl) ?_
                      refine lv_iconst (v := 5) hx hb dX7_innerLine_102 (by decide) ?_
                      refine lv_aload_n hx hb dX7_innerLine_103 rfl (lv_at hl 5 rfl) ?_
                      refine va_get (D := (dC, dI)) (ci := 7) (v := .int z_6181) (C := RX7) (T := TX7) (N := 48) hx hb hts inX7 hown hK hP 0 rfl rfl 4 (by decide) (hts _ wd_384) (fun _ h9 => h9) rfl dX7_innerLine_104 ?_
                      have hMs := ml_of hD [true, false, false, false, false, false] (wc := [(oc7 oM iM_thrown rM_tape iM_taped iM_size z_6181 z_6182 z_6183 z_6184 z_6185 z_6217 z_6218 iM_trouble rM_letters z_6216 iM_hasCourt rM_r rM_fresh rM_told rM_read rM_st rM_undone rM_kept iM_undos iM_images rM_fresher x_6175 iM_scale iM_night rM_heardRow rM_cutRow iM_breaths iM_cutMany iM_allBreaths rM_trial rM_words iM_fewestBreaths iM_orderMany iM_orderSum iM_leastOrder rM_often iM_setMany iM_someOf iM_allOf iM_allWeight iM_enoughWeight iM_worthSum iM_firstRest iM_leastDrawn)]) rfl
                      have hFc := va_freeM hD hS hA _ hMs
                      refine va_callv (va_runV (As := [.int 5, .int z_6181]) (rest := []) ⟨hx, hb, hml, hown, hts⟩ (tX7_wrong l dC dI _ oM iM_thrown rM_tape iM_taped iM_size z_6181 z_6182 z_6183 z_6184 z_6185 z_6217 z_6218 iM_trouble rM_letters z_6216 iM_hasCourt rM_r rM_fresh rM_told rM_read rM_st rM_undone rM_kept iM_undos iM_images rM_fresher x_6175 iM_scale iM_night rM_heardRow rM_cutRow iM_breaths iM_cutMany iM_allBreaths rM_trial rM_words iM_fewestBreaths iM_orderMany iM_orderSum iM_leastOrder rM_often iM_setMany iM_someOf iM_allOf iM_allWeight iM_enoughWeight iM_worthSum iM_firstRest iM_leastDrawn 5 z_6181 b_iM_taped b_iM_size b_z_6182 b_z_6185 b_z_6216 b_iM_hasCourt b_iM_undos b_iM_images b_iM_scale b_iM_breaths b_iM_cutMany hi6_n_6192) (cwV 2 hts (wd_V wd_430 wd_431 wd_432 wd_5 (wd_c wd_433)) rfl rfl rfl dv_yX7_wrong_2 ⟨Nat.le_of_ble_eq_true rfl, Nat.le_of_ble_eq_true rfl⟩) ⟨Pw.fb, recvX7 hK hP (q0 := 0) rfl, fun U hU hW => Pw.to (hP.ms _ hMs) (hD.ms _ hMs) (hK.ms [false, false, false, false, false] rfl) hE hS hFc hU hW⟩ rfl rfl hl.1 rfl (lv_room (Nat.le_of_ble_eq_true rfl)) dX7_innerLine_107 ⟨Nat.le_of_ble_eq_true rfl, Nat.le_of_ble_eq_true rfl⟩) hS (fun q _ h => hFc q h) hFc (fun u t H locs ht hvm hw hB hz1 hk1 hS => ?_)
                      refine ex_3_3 hB (fun x_6299 x_6300 x_6301 b_x_6301 e_x_6299_0 e_x_6299_1 hB => ?_)
                      obtain ⟨hP, hD⟩ := Bw.goN (ws' := [(oc7 oM iM_thrown rM_tape iM_taped iM_size z_6181 z_6182 z_6183 z_6184 z_6185 x_6299 x_6300 iM_trouble rM_letters x_6301 iM_hasCourt rM_r rM_fresh rM_told rM_read rM_st rM_undone rM_kept iM_undos iM_images rM_fresher x_6175 iM_scale iM_night rM_heardRow rM_cutRow iM_breaths iM_cutMany iM_allBreaths rM_trial rM_words iM_fewestBreaths iM_orderMany iM_orderSum iM_leastOrder rM_often iM_setMany iM_someOf iM_allOf iM_allWeight iM_enoughWeight iM_worthSum iM_firstRest iM_leastDrawn), (arI rM_tape kM_tape 900 fM_tape), (arI rM_letters kM_letters 8 f_6189), (arI rM_fresh kM_fresh 287 f_6190), (arI rM_read kM_read 90 f_6191), (arI rM_fresher kM_fresher 8 f_6177)]) hB rfl ht hP hD _ hMs hk1 hFc rfl
                      clear hz1 hk1 hvm ht hB hMs
                      have hG := hG.trans (un3_eq e_x_6299_1)
                      refine lv_aload_n hx hb dX7_innerLine_110 rfl (lv_at hl 5 rfl) ?_
                      have hMs := ml_of hD [true, true, true, false, false, false] (wc := [(oc7 oM iM_thrown rM_tape iM_taped iM_size z_6181 z_6182 z_6183 z_6184 z_6185 x_6299 x_6300 iM_trouble rM_letters x_6301 iM_hasCourt rM_r rM_fresh rM_told rM_read rM_st rM_undone rM_kept iM_undos iM_images rM_fresher x_6175 iM_scale iM_night rM_heardRow rM_cutRow iM_breaths iM_cutMany iM_allBreaths rM_trial rM_words iM_fewestBreaths iM_orderMany iM_orderSum iM_leastOrder rM_often iM_setMany iM_someOf iM_allOf iM_allWeight iM_enoughWeight iM_worthSum iM_firstRest iM_leastDrawn), (arI rM_tape kM_tape 900 fM_tape), (arI rM_letters kM_letters 8 f_6189)]) rfl
                      have hFc := va_freeM hD hS hA _ hMs
                      refine va_callv (va_runV (As := []) (rest := []) ⟨hx, hb, hml, hown, hts⟩ (tX7_pass l dC dI _ oM iM_thrown rM_tape fM_tape kM_tape iM_taped iM_size z_6181 z_6182 z_6183 z_6184 z_6185 x_6299 x_6300 iM_trouble rM_letters f_6189 kM_letters x_6301 iM_hasCourt rM_r rM_fresh rM_told rM_read rM_st rM_undone rM_kept iM_undos iM_images rM_fresher x_6175 iM_scale iM_night rM_heardRow rM_cutRow iM_breaths iM_cutMany iM_allBreaths rM_trial rM_words iM_fewestBreaths iM_orderMany iM_orderSum iM_leastOrder rM_often iM_setMany iM_someOf iM_allOf iM_allWeight iM_enoughWeight iM_worthSum iM_firstRest iM_leastDrawn b_iM_taped b_iM_size b_z_6182 b_z_6185 b_x_6301 b_iM_hasCourt b_iM_undos b_iM_images b_iM_scale b_iM_breaths b_iM_cutMany hi6_n_6192) (cwV 0 hts (wd_V wd_454 wd_455 wd_456 wd_5 (wd_c wd_457)) rfl rfl rfl dv_yX7_pass_0 ⟨Nat.le_of_ble_eq_true rfl, Nat.le_of_ble_eq_true rfl⟩) ⟨Pw.fb, recvX7 hK hP (q0 := 0) rfl, fun U hU hW => Pw.to (hP.ms _ hMs) (hD.ms _ hMs) (hK.ms [true, true, false, false, false] rfl) hE hS hFc hU hW⟩ rfl rfl hl.1 rfl (lv_room (Nat.le_of_ble_eq_true rfl)) dX7_innerLine_111 ⟨Nat.le_of_ble_eq_true rfl, Nat.le_of_ble_eq_true rfl⟩) hS (fun q _ h => hFc q h) hFc (fun u t H locs ht hvm hw hB hz1 hk1 hS => ?_)
                      refine ex_6_6 hB (fun x_6302 x_6303 x_6304 x_6305 x_6306 f_6307 b_x_6303 b_x_6306 e_x_6302_0 e_x_6302_1 e_x_6302_2 e_x_6302_3 hB => ?_)
                      obtain ⟨hP, hD⟩ := Bw.goN (ws' := [(oc7 oM iM_thrown rM_tape iM_taped iM_size x_6302 x_6303 x_6304 x_6305 x_6306 x_6299 x_6300 iM_trouble rM_letters x_6301 iM_hasCourt rM_r rM_fresh rM_told rM_read rM_st rM_undone rM_kept iM_undos iM_images rM_fresher x_6175 iM_scale iM_night rM_heardRow rM_cutRow iM_breaths iM_cutMany iM_allBreaths rM_trial rM_words iM_fewestBreaths iM_orderMany iM_orderSum iM_leastOrder rM_often iM_setMany iM_someOf iM_allOf iM_allWeight iM_enoughWeight iM_worthSum iM_firstRest iM_leastDrawn), (arI rM_tape kM_tape 900 fM_tape), (arI rM_letters kM_letters 8 f_6307), (arI rM_fresh kM_fresh 287 f_6190), (arI rM_read kM_read 90 f_6191), (arI rM_fresher kM_fresher 8 f_6177)]) hB rfl ht hP hD _ hMs hk1 hFc rfl
                      clear hz1 hk1 hvm ht hB hMs
                      have hG := hG.trans (un6_eq e_x_6302_3)
                      clear hi6_n_6192
                      clear hi8_n_6192
                      refine lv_iload_n hx hb dX7_innerLine_114 rfl (lv_at hl 6 rfl) ?_
                      refine lv_iconst (v := 3) hx hb dX7_innerLine_115 (by decide) ?_
                      refine lv_icmp_ne (tgt := 129) hx hb dX7_innerLine_116 (by decide) (fun c_6308 => ?_) (fun c_6308 => ?_)
                      · skip
                        have hG := hG.trans (if_neg c_6308)
                        have gc_6308 := ti_ne c_6308 rfl kc_3
                        replace gc_6308 : p0.toInt + (-2) ≤ 0 := om_b7ea5ffe gc_6308 hp0.2
                        clear hic
                        refine lv_iconst (v := 0) hx hb dX7_innerLine_129 (by decide) ?_
                        refine lv_istore (lv' := [(6, .int 0), (5, .int x_6214), (4, .int z_6180), (3, .int z_6179), (2, .int x_6178), (0, .ref oM), (1, .int p0)]) hx hb dX7_innerLine_130 hl (by decide) rfl (fun ls hl => ?_)
                        refine lv_aload_n hx hb dX7_innerLine_132 rfl (lv_at hl 5 rfl) ?_
                        refine va_get (D := (dC, dI)) (ci := 7) (v := .int x_6301) (C := RX7) (T := TX7) (N := 48) hx hb hts inX7 hown hK hP 0 rfl rfl 13 (by decide) (hts _ wd_380) (fun _ h9 => h9) rfl dX7_innerLine_133 ?_
                        refine lv_if_eq (tgt := 140) hx hb dX7_innerLine_136 (by decide) (fun c_6309 => ?_) (fun c_6309 => ?_)
                        · skip
                          have hG := hG.trans (if_pos c_6309)
                          have gc_6309 := ti_eq c_6309 rfl kc_0
                          exact ((om_b1155cdc e_x_6299_0 gc_6309)).elim
                        · skip
                          have hG := hG.trans (if_neg c_6309)
                          have gc_6309 := ti_ne c_6309 rfl kc_0
                          replace gc_6309 : (-1) * x_6301.toInt + 1 ≤ 0 := om_e3003f79 gc_6309 b_x_6301.1
                          exact wq_v hx hb hr 0 trivial (fun t ht hW => ⟨x_6302, x_6303, x_6304, x_6305, x_6306, x_6299, x_6300, x_6301, x_6175, f_6307, f_6190, f_6191, f_6177, b_x_6303, b_x_6306, b_x_6301, (om_9348f5ae hi7_n_6192 e_x_6302_0), e_x_6302_1, (om_1fc3dec6 gc_6165 b_x_6301.1), (fun h9 => False.elim (om_92495247 e_x_6299_0 h9.1)), hi2_n_6192, hG, Bw.to hP hD hK ht hW⟩) hS dX7_innerLine_139 hlocks
                      · skip
                        have hG := hG.trans (if_pos c_6308)
                        have gc_6308 := ti_eq c_6308 rfl kc_3
                        have h_6310 : (fM_fresh 8).toInt ≤ 1 := hic ⟨(om_02e9bb08 gc_6165), (om_ce492ef9 hp0.2 gc_6308)⟩
                        clear hic
                        refine lv_aload_n hx hb dX7_innerLine_119 rfl (lv_at hl 5 rfl) ?_
                        refine lv_iconst (v := 1) hx hb dX7_innerLine_120 (by decide) ?_
                        refine lv_bipush (v := 9) hx hb dX7_innerLine_121 (by decide) ?_
                        have hMs := ml_of hD [true, true, true, false, false, false] (wc := [(oc7 oM iM_thrown rM_tape iM_taped iM_size x_6302 x_6303 x_6304 x_6305 x_6306 x_6299 x_6300 iM_trouble rM_letters x_6301 iM_hasCourt rM_r rM_fresh rM_told rM_read rM_st rM_undone rM_kept iM_undos iM_images rM_fresher x_6175 iM_scale iM_night rM_heardRow rM_cutRow iM_breaths iM_cutMany iM_allBreaths rM_trial rM_words iM_fewestBreaths iM_orderMany iM_orderSum iM_leastOrder rM_often iM_setMany iM_someOf iM_allOf iM_allWeight iM_enoughWeight iM_worthSum iM_firstRest iM_leastDrawn), (arI rM_tape kM_tape 900 fM_tape), (arI rM_letters kM_letters 8 f_6307)]) rfl
                        have hFc := va_freeM hD hS hA _ hMs
                        refine va_calli (va_runV (As := [.int 1, .int 9]) (rest := []) ⟨hx, hb, hml, hown, hts⟩ (tX7_number l dC dI _ oM iM_thrown rM_tape fM_tape kM_tape iM_taped iM_size x_6302 x_6303 x_6304 x_6305 x_6306 x_6299 x_6300 iM_trouble rM_letters f_6307 kM_letters x_6301 iM_hasCourt rM_r rM_fresh rM_told rM_read rM_st rM_undone rM_kept iM_undos iM_images rM_fresher x_6175 iM_scale iM_night rM_heardRow rM_cutRow iM_breaths iM_cutMany iM_allBreaths rM_trial rM_words iM_fewestBreaths iM_orderMany iM_orderSum iM_leastOrder rM_often iM_setMany iM_someOf iM_allOf iM_allWeight iM_enoughWeight iM_worthSum iM_firstRest iM_leastDrawn 1 9 b_iM_taped b_iM_size b_x_6303 b_x_6306 b_x_6301 b_iM_hasCourt b_iM_undos b_iM_images b_iM_scale b_iM_breaths b_iM_cutMany e_x_6302_1 (om_dc317686 kc_1 kc_9)) (cwV 2 hts (wd_V wd_446 wd_447 wd_448 wd_5 (wd_c wd_449)) rfl rfl rfl dv_yX7_number_2 ⟨Nat.le_of_ble_eq_true rfl, Nat.le_of_ble_eq_true rfl⟩) ⟨Pw.fb, recvX7 hK hP (q0 := 0) rfl, fun U hU hW => Pw.to (hP.ms _ hMs) (hD.ms _ hMs) (hK.ms [true, true, false, false, false] rfl) hE hS hFc hU hW⟩ rfl rfl hl.1 rfl (lv_room (Nat.le_of_ble_eq_true rfl)) dX7_innerLine_123 ⟨Nat.le_of_ble_eq_true rfl, Nat.le_of_ble_eq_true rfl⟩) hS (fun q _ h => hFc q h) hFc (fun r u t H locs ht hvm hw hB hz1 hk1 hS => ?_)
                        have hru9 := hw.2
                        have hw := hw.1
                        refine ex_9_8 hB (fun x_6311 x_6312 x_6313 x_6314 x_6315 x_6316 x_6317 x_6318 f_6319 b_x_6312 b_x_6315 b_x_6318 e_x_6311_0 e_x_6311_1 e_x_6311_2 e_x_6311_3 e_x_6311_4 hB => ?_)
                        obtain ⟨hP, hD⟩ := Bw.goN (ws' := [(oc7 oM iM_thrown rM_tape iM_taped iM_size x_6311 x_6312 x_6313 x_6314 x_6315 x_6316 x_6317 iM_trouble rM_letters x_6318 iM_hasCourt rM_r rM_fresh rM_told rM_read rM_st rM_undone rM_kept iM_undos iM_images rM_fresher x_6175 iM_scale iM_night rM_heardRow rM_cutRow iM_breaths iM_cutMany iM_allBreaths rM_trial rM_words iM_fewestBreaths iM_orderMany iM_orderSum iM_leastOrder rM_often iM_setMany iM_someOf iM_allOf iM_allWeight iM_enoughWeight iM_worthSum iM_firstRest iM_leastDrawn), (arI rM_tape kM_tape 900 fM_tape), (arI rM_letters kM_letters 8 f_6319), (arI rM_fresh kM_fresh 287 f_6190), (arI rM_read kM_read 90 f_6191), (arI rM_fresher kM_fresher 8 f_6177)]) hB rfl ht hP hD _ hMs hk1 hFc rfl
                        clear hz1 hk1 hvm ht hB hMs
                        rw [← hru9] at e_x_6311_4
                        obtain ⟨x_6320, rfl⟩ : ∃ z, z = r := ⟨_, rfl⟩
                        have hG := hG.trans (un10_eq e_x_6311_4)
                        have lx_6320 := hw.2
                        have kl_1 := kc_1
                        have kl_9 := kc_9
                        clear e_x_6302_1
                        clear e_x_6302_2
                        refine lv_goto (tgt := 130) hx hb dX7_innerLine_126 (by decide) ?_
                        refine lv_istore (lv' := [(6, .int x_6320), (5, .int x_6214), (4, .int z_6180), (3, .int z_6179), (2, .int x_6178), (0, .ref oM), (1, .int p0)]) hx hb dX7_innerLine_130 hl (by decide) rfl (fun ls hl => ?_)
                        refine lv_aload_n hx hb dX7_innerLine_132 rfl (lv_at hl 5 rfl) ?_
                        refine va_get (D := (dC, dI)) (ci := 7) (v := .int x_6318) (C := RX7) (T := TX7) (N := 48) hx hb hts inX7 hown hK hP 0 rfl rfl 13 (by decide) (hts _ wd_380) (fun _ h9 => h9) rfl dX7_innerLine_133 ?_
                        refine lv_if_eq (tgt := 140) hx hb dX7_innerLine_136 (by decide) (fun c_6321 => ?_) (fun c_6321 => ?_)
                        · skip
                          have hG := hG.trans (if_pos c_6321)
                          have gc_6321 := ti_eq c_6321 rfl kc_0
                          exact ((om_2f02dee4 e_x_6299_0 e_x_6311_2 gc_6321)).elim
                        · skip
                          have hG := hG.trans (if_neg c_6321)
                          have gc_6321 := ti_ne c_6321 rfl kc_0
                          replace gc_6321 : (-1) * x_6318.toInt + 1 ≤ 0 := om_e3003f79 gc_6321 b_x_6318.1
                          exact wq_v hx hb hr 0 trivial (fun t ht hW => ⟨x_6311, x_6312, x_6313, x_6314, x_6315, x_6316, x_6317, x_6318, x_6175, f_6319, f_6190, f_6191, f_6177, b_x_6312, b_x_6315, b_x_6318, (om_622f2a87 hi7_n_6192 e_x_6302_0 e_x_6311_0), e_x_6311_1, (om_1fc3dec6 gc_6165 b_x_6318.1), (fun h9 => False.elim (om_a5fe015d gc_6321 h9.1)), hi2_n_6192, hG, Bw.to hP hD hK ht hW⟩) hS dX7_innerLine_139 hlocks
                · skip
                  have hG := hG.trans (if_neg c_6220)
                  have gc_6220 := ti_nle c_6220 rfl rfl
                  refine lv_aload_n hx hb dX7_innerLine_51 rfl (lv_at hl 5 rfl) ?_
                  refine va_get (D := (dC, dI)) (ci := 7) (v := .int z_6216) (C := RX7) (T := TX7) (N := 48) hx hb hts inX7 hown hK hP 0 rfl rfl 13 (by decide) (hts _ wd_380) (fun _ h9 => h9) rfl dX7_innerLine_52 ?_
                  refine lv_if_ne (tgt := 83) hx hb dX7_innerLine_55 (by decide) (fun c_6322 => ?_) (fun c_6322 => ?_)
                  · skip
                    have hG := hG.trans (if_neg c_6322)
                    have gc_6322 := ti_ne c_6322 rfl kc_0
                    replace gc_6322 : (-1) * z_6216.toInt + 1 ≤ 0 := om_e3003f79 gc_6322 b_z_6216.1
                    obtain ⟨x_6323, ex_6323⟩ : ∃ z : Int32, z = z_6215 + Int32.ofInt 1 := ⟨_, rfl⟩
                    have hG := hG.trans (lt_eq ex_6323)
                    have vx_6323 : x_6323.toInt = z_6215.toInt + 1 := ti_add (y := 1) ex_6323 rfl kc_1 (om_4e4fce7e hi0_n_6219.1) (om_d6392c09 hi0_n_6192.2 hi0_n_6219.2)
                    refine lv_iinc (v := x_6323) (lv' := [(6, .int x_6323), (5, .int x_6214), (4, .int z_6180), (3, .int z_6179), (2, .int x_6178), (0, .ref oM), (1, .int p0)]) hx hb dX7_innerLine_83 hl (k := 0) rfl ex_6323.symm (by decide) rfl (fun ls hl => ?_)
                    refine lv_goto (tgt := 45) hx hb dX7_innerLine_86 (by decide) ?_
                    exact ih_n_6219 x_6323 z_6216 z_6217 z_6218 _ _ _ b_z_6216 ⟨(om_83b90de5 hi0_n_6219.1 vx_6323), (om_afcf07ef gc_6220 vx_6323)⟩ hi1_n_6219 (show NeI _ _ _ _ _ from fun h9 i9 hi9 => by by_cases e9 : i9 = z_6215.toNatClampNeg; (rw [e9]; omega); exact hi2_n_6219 (by omega) i9 (by have q1 := ti_cl (x := x_6323) vx_6323 (om_9548a8fd hi0_n_6219.1); have q2 := ti_cl (x := z_6215) rfl hi0_n_6219.1; omega)) (ms_lt hm_n_6219 (om_dd4ae0bc vx_6323) (om_d5382009 gc_6220)) hG hP hD hS (lv_sub hl [0, 1, 2, 3, 4, 5, 6] rfl)
                  · skip
                    have hG := hG.trans (if_pos c_6322)
                    have gc_6322 := ti_eq c_6322 rfl kc_0
                    have h_6324 : 1 ≤ (f_6190 1).toInt := e_x_6211_1 (om_6c480895 hi1_n_6219 gc_6322)
                    clear e_x_6211_1
                    have h_6325 : x_6214.toInt < (f_6190 1).toInt := lx_6214.2.1 h_6324
                    refine lv_aload_n hx hb dX7_innerLine_58 rfl (lv_at hl 5 rfl) ?_
                    refine va_get (D := (dC, dI)) (ci := 7) (v := .ref rM_read) (C := RX7) (T := TX7) (N := 48) hx hb hts inX7 hown hK hP 0 rfl rfl 18 (by decide) (hts _ wd_158) (fun _ h9 => h9) rfl dX7_innerLine_59 ?_
                    refine lv_iconst (v := 4) hx hb dX7_innerLine_62 (by decide) ?_
                    refine lv_iload_n hx hb dX7_innerLine_63 rfl (lv_at hl 4 rfl) ?_
                    refine lv_imul hx hb dX7_innerLine_64 ?_
                    refine lv_topi (fun x_6326 ex_6326 => ?_)
                    have hG := hG.trans (lt_eq ex_6326)
                    have vx_6326 : x_6326.toInt = 4 * x_6178.toInt := ti_mul ex_6326 kc_4 rfl (om_9e6bb6a4 pl_fM_fresh.2.2.2.2.1.1 pl_fM_fresh.2.2.2.2.1.2 cx_6178) (om_7d3cae7d pl_fM_fresh.2.1 pl_fM_fresh.2.2.1.2 pl_fM_fresh.2.2.2.2.2.1.2 cx_6178)
                    refine lv_iload hx hb dX7_innerLine_65 (lv_at hl 0 rfl) ?_
                    refine lv_iadd hx hb dX7_innerLine_67 ?_
                    refine lv_topi (fun x_6327 ex_6327 => ?_)
                    have hG := hG.trans (lt_eq ex_6327)
                    have vx_6327 : x_6327.toInt = 4 * x_6178.toInt + z_6215.toInt := om_5d0caf0f (ti_add ex_6327 vx_6326 rfl (om_80a5d224 pl_fM_fresh.2.2.2.2.1.1 pl_fM_fresh.2.2.2.2.1.2 cx_6178 hi0_n_6219.1) (om_92405955 pl_fM_fresh.2.1 pl_fM_fresh.2.2.1.2 pl_fM_fresh.2.2.2.2.2.1.2 cx_6178 hi0_n_6192.2 hi0_n_6219.2))
                    refine va_iald hx hb hK hP 4 3 rfl rfl (ti_in vx_6327 (om_dcc527d7 pl_fM_fresh.2.2.2.2.1.1 pl_fM_fresh.2.2.2.2.1.2 cx_6178 hi0_n_6219.1) (om_87f3af2a pl_fM_fresh.2.1 pl_fM_fresh.2.2.1.2 pl_fM_fresh.2.2.2.2.2.1.2 cx_6178 hi0_n_6192.2 hi0_n_6219.2)) dX7_innerLine_68 ?_
                    refine lv_topi (fun x_6328 ex_6328 => ?_)
                    have hG := hG.trans (lt_eq ex_6328)
                    have kx_6328 : (f_6191 x_6327.toNatClampNeg).toInt = x_6328.toInt := by rw [ex_6328]
                    have cx_6328 : (f_6191 (4 * x_6178.toNatClampNeg + z_6215.toNatClampNeg)).toInt = x_6328.toInt := by rw [show 4 * x_6178.toNatClampNeg + z_6215.toNatClampNeg = x_6327.toNatClampNeg from (om_4de36627 (ti_cl (x := x_6178) rfl (om_1ab2c227 pl_fM_fresh.2.2.2.2.1.1 pl_fM_fresh.2.2.2.2.1.2 cx_6178)) (ti_cl (x := z_6215) rfl hi0_n_6219.1) (ti_cl (x := x_6327) vx_6327 (om_dcc527d7 pl_fM_fresh.2.2.2.2.1.1 pl_fM_fresh.2.2.2.2.1.2 cx_6178 hi0_n_6219.1)))]; exact kx_6328
                    refine lv_iload hx hb dX7_innerLine_69 (lv_at hl 1 rfl) ?_
                    refine lv_icmp_ne (tgt := 83) hx hb dX7_innerLine_71 (by decide) (fun c_6329 => ?_) (fun c_6329 => ?_)
                    · skip
                      have hG := hG.trans (if_neg c_6329)
                      have gc_6329 := ti_ne c_6329 rfl rfl
                      obtain ⟨x_6330, ex_6330⟩ : ∃ z : Int32, z = z_6215 + Int32.ofInt 1 := ⟨_, rfl⟩
                      have hG := hG.trans (lt_eq ex_6330)
                      have vx_6330 : x_6330.toInt = z_6215.toInt + 1 := ti_add (y := 1) ex_6330 rfl kc_1 (om_4e4fce7e hi0_n_6219.1) (om_d6392c09 hi0_n_6192.2 hi0_n_6219.2)
                      refine lv_iinc (v := x_6330) (lv' := [(6, .int x_6330), (5, .int x_6214), (4, .int z_6180), (3, .int z_6179), (2, .int x_6178), (0, .ref oM), (1, .int p0)]) hx hb dX7_innerLine_83 hl (k := 0) rfl ex_6330.symm (by decide) rfl (fun ls hl => ?_)
                      refine lv_goto (tgt := 45) hx hb dX7_innerLine_86 (by decide) ?_
                      exact ih_n_6219 x_6330 z_6216 z_6217 z_6218 _ _ _ b_z_6216 ⟨(om_83b90de5 hi0_n_6219.1 vx_6330), (om_afcf07ef gc_6220 vx_6330)⟩ hi1_n_6219 (show NeI _ _ _ _ _ from fun h9 i9 hi9 => by by_cases e9 : i9 = z_6215.toNatClampNeg; (rw [e9]; omega); exact hi2_n_6219 (by omega) i9 (by have q1 := ti_cl (x := x_6330) vx_6330 (om_9548a8fd hi0_n_6219.1); have q2 := ti_cl (x := z_6215) rfl hi0_n_6219.1; omega)) (ms_lt hm_n_6219 (om_dd4ae0bc vx_6330) (om_d5382009 gc_6220)) hG hP hD hS (lv_sub hl [0, 1, 2, 3, 4, 5, 6] rfl)
                    · skip
                      have hG := hG.trans (if_pos c_6329)
                      have gc_6329 := ti_eq c_6329 rfl rfl
                      refine lv_aload_n hx hb dX7_innerLine_74 rfl (lv_at hl 5 rfl) ?_
                      refine lv_iconst (v := 3) hx hb dX7_innerLine_75 (by decide) ?_
                      refine lv_aload_n hx hb dX7_innerLine_76 rfl (lv_at hl 5 rfl) ?_
                      refine va_get (D := (dC, dI)) (ci := 7) (v := .int z_6181) (C := RX7) (T := TX7) (N := 48) hx hb hts inX7 hown hK hP 0 rfl rfl 4 (by decide) (hts _ wd_384) (fun _ h9 => h9) rfl dX7_innerLine_77 ?_
                      have hMs := ml_of hD [true, false, false, false, false, false] (wc := [(oc7 oM iM_thrown rM_tape iM_taped iM_size z_6181 z_6182 z_6183 z_6184 z_6185 z_6217 z_6218 iM_trouble rM_letters z_6216 iM_hasCourt rM_r rM_fresh rM_told rM_read rM_st rM_undone rM_kept iM_undos iM_images rM_fresher x_6175 iM_scale iM_night rM_heardRow rM_cutRow iM_breaths iM_cutMany iM_allBreaths rM_trial rM_words iM_fewestBreaths iM_orderMany iM_orderSum iM_leastOrder rM_often iM_setMany iM_someOf iM_allOf iM_allWeight iM_enoughWeight iM_worthSum iM_firstRest iM_leastDrawn)]) rfl
                      have hFc := va_freeM hD hS hA _ hMs
                      refine va_callv (va_runV (As := [.int 3, .int z_6181]) (rest := []) ⟨hx, hb, hml, hown, hts⟩ (tX7_wrong l dC dI _ oM iM_thrown rM_tape iM_taped iM_size z_6181 z_6182 z_6183 z_6184 z_6185 z_6217 z_6218 iM_trouble rM_letters z_6216 iM_hasCourt rM_r rM_fresh rM_told rM_read rM_st rM_undone rM_kept iM_undos iM_images rM_fresher x_6175 iM_scale iM_night rM_heardRow rM_cutRow iM_breaths iM_cutMany iM_allBreaths rM_trial rM_words iM_fewestBreaths iM_orderMany iM_orderSum iM_leastOrder rM_often iM_setMany iM_someOf iM_allOf iM_allWeight iM_enoughWeight iM_worthSum iM_firstRest iM_leastDrawn 3 z_6181 b_iM_taped b_iM_size b_z_6182 b_z_6185 b_z_6216 b_iM_hasCourt b_iM_undos b_iM_images b_iM_scale b_iM_breaths b_iM_cutMany hi6_n_6192) (cwV 2 hts (wd_V wd_430 wd_431 wd_432 wd_5 (wd_c wd_433)) rfl rfl rfl dv_yX7_wrong_2 ⟨Nat.le_of_ble_eq_true rfl, Nat.le_of_ble_eq_true rfl⟩) ⟨Pw.fb, recvX7 hK hP (q0 := 0) rfl, fun U hU hW => Pw.to (hP.ms _ hMs) (hD.ms _ hMs) (hK.ms [false, false, false, false, false] rfl) hE hS hFc hU hW⟩ rfl rfl hl.1 rfl (lv_room (Nat.le_of_ble_eq_true rfl)) dX7_innerLine_80 ⟨Nat.le_of_ble_eq_true rfl, Nat.le_of_ble_eq_true rfl⟩) hS (fun q _ h => hFc q h) hFc (fun u t H locs ht hvm hw hB hz1 hk1 hS => ?_)
                      refine ex_3_3 hB (fun x_6331 x_6332 x_6333 b_x_6333 e_x_6331_0 e_x_6331_1 hB => ?_)
                      obtain ⟨hP, hD⟩ := Bw.goN (ws' := [(oc7 oM iM_thrown rM_tape iM_taped iM_size z_6181 z_6182 z_6183 z_6184 z_6185 x_6331 x_6332 iM_trouble rM_letters x_6333 iM_hasCourt rM_r rM_fresh rM_told rM_read rM_st rM_undone rM_kept iM_undos iM_images rM_fresher x_6175 iM_scale iM_night rM_heardRow rM_cutRow iM_breaths iM_cutMany iM_allBreaths rM_trial rM_words iM_fewestBreaths iM_orderMany iM_orderSum iM_leastOrder rM_often iM_setMany iM_someOf iM_allOf iM_allWeight iM_enoughWeight iM_worthSum iM_firstRest iM_leastDrawn), (arI rM_tape kM_tape 900 fM_tape), (arI rM_letters kM_letters 8 f_6189), (arI rM_fresh kM_fresh 287 f_6190), (arI rM_read kM_read 90 f_6191), (arI rM_fresher kM_fresher 8 f_6177)]) hB rfl ht hP hD _ hMs hk1 hFc rfl
                      clear hz1 hk1 hvm ht hB hMs
                      have hG := hG.trans (un3_eq e_x_6331_1)
                      obtain ⟨x_6334, ex_6334⟩ : ∃ z : Int32, z = z_6215 + Int32.ofInt 1 := ⟨_, rfl⟩
                      have hG := hG.trans (lt_eq ex_6334)
                      have vx_6334 : x_6334.toInt = z_6215.toInt + 1 := ti_add (y := 1) ex_6334 rfl kc_1 (om_4e4fce7e hi0_n_6219.1) (om_d6392c09 hi0_n_6192.2 hi0_n_6219.2)
                      refine lv_iinc (v := x_6334) (lv' := [(6, .int x_6334), (5, .int x_6214), (4, .int z_6180), (3, .int z_6179), (2, .int x_6178), (0, .ref oM), (1, .int p0)]) hx hb dX7_innerLine_83 hl (k := 0) rfl ex_6334.symm (by decide) rfl (fun ls hl => ?_)
                      refine lv_goto (tgt := 45) hx hb dX7_innerLine_86 (by decide) ?_
                      exact ih_n_6219 x_6334 x_6333 x_6331 x_6332 _ _ _ b_x_6333 ⟨(om_83b90de5 hi0_n_6219.1 vx_6334), (om_afcf07ef gc_6220 vx_6334)⟩ (om_00f1c5dd b_x_6213.2 e_x_6331_0) (show NeI _ _ _ _ _ from fun h9 i9 hi9 => by by_cases e9 : i9 = z_6215.toNatClampNeg; (rw [e9]; omega); exact hi2_n_6219 (by omega) i9 (by have q1 := ti_cl (x := x_6334) vx_6334 (om_9548a8fd hi0_n_6219.1); have q2 := ti_cl (x := z_6215) rfl hi0_n_6219.1; omega)) (ms_lt hm_n_6219 (om_dd4ae0bc vx_6334) (om_d5382009 gc_6220)) hG hP hD hS (lv_sub hl [0, 1, 2, 3, 4, 5, 6] rfl)
            exact key_n_6219 (((z_6179.toInt - (0 : Int32).toInt).toNat) + 1) 0 x_6213 x_6211 x_6212 _ _ _ b_x_6213 ⟨(om_b1de7dbe kc_0), (om_2dfe280d hi0_n_6192.1 kc_0)⟩ om_1cb5f934 (show NeI _ _ _ _ _ from fun _ i9 hi9 => absurd hi9 (Nat.not_lt_zero i9)) (Nat.lt_add_one _) hG hP hD hS hl
    exact key_n_6192 (((4 - (0 : Int32).toInt).toNat) + 1) 0 1 x_6167 x_6168 x_6169 x_6170 x_6171 x_6172 x_6173 x_6174 f_6176 fM_fresh fM_read _ _ _ b_x_6168 b_x_6171 b_x_6174 ⟨(om_b1de7dbe kc_0), (om_bebe011a kc_0)⟩ ⟨(om_1b364b1c kc_1), (om_02032f93 kc_1)⟩ (by assumption) in_zero ⟨rfl, rfl, rfl⟩ (fun h9 => by have q0 := kc_0; have q1 := kc_1; omega) e_x_6167_1 e_x_6167_0 (fun h9 => by have q0 := kc_0; have q1 := kc_1; have q9 := e_x_6167_3 (by omega); omega) (Nat.lt_add_one _) hG hP hD hS hl
  · skip
    have hG := hG.trans (if_neg c_6165)
    have gc_6165 := ti_ne c_6165 rfl kc_0
    replace gc_6165 : (-1) * iM_failed.toInt + 1 ≤ 0 := om_e3003f79 gc_6165 b_iM_failed.1
    clear hil
    clear hic
    exact wq_v hx hb hr 0 trivial (fun t ht hW => ⟨iM_at, iM_end, iM_token, iM_whole, iM_nameSize, iM_fault, iM_place, iM_failed, iM_fresherSize, fM_letters, fM_fresh, fM_read, fM_fresher, ⟨b_iM_end.1, b_iM_end.2⟩, ⟨b_iM_nameSize.1, b_iM_nameSize.2⟩, ⟨b_iM_failed.1, b_iM_failed.2⟩, om_1cb5f934, r_T, om_1cb5f934, (fun h9 => False.elim (om_a5fe015d gc_6165 h9.1)), r_P, hG, Bw.to hP hD hK ht hW⟩) hS dX7_innerLine_7 hlocks
