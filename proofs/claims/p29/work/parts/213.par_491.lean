set_option maxHeartbeats 4000000 in
set_option maxRecDepth 100000 in
theorem tX7_innerLine (l : Launch) (dC : Nat → ClassId) (dI : Nat → Nat → Nat) (sz : Nat) (oM : Nat) (iM_thrown : Int32) (rM_tape : Nat) (fM_tape : Nat → Int32) (kM_tape : ClassId) (iM_taped : Int32) (iM_size : Int32) (iM_at : Int32) (iM_end : Int32) (iM_token : Int32) (iM_whole : Int32) (iM_nameSize : Int32) (iM_fault : Int32) (iM_place : Int32) (iM_trouble : Int32) (rM_letters : Nat) (fM_letters : Nat → Int32) (kM_letters : ClassId) (iM_failed : Int32) (iM_hasCourt : Int32) (rM_r : Nat) (rM_fresh : Nat) (fM_fresh : Nat → Int32) (kM_fresh : ClassId) (rM_told : Nat) (rM_read : Nat) (fM_read : Nat → Int32) (kM_read : ClassId) (rM_st : Nat) (rM_undone : Nat) (rM_kept : Nat) (iM_undos : Int32) (iM_images : Int32) (rM_fresher : Nat) (fM_fresher : Nat → Int32) (kM_fresher : ClassId) (iM_fresherSize : Int32) (iM_scale : Int32) (iM_night : Int32) (rM_heardRow : Nat) (rM_cutRow : Nat) (iM_breaths : Int32) (iM_cutMany : Int32) (iM_allBreaths : Int32) (rM_trial : Nat) (rM_words : Nat) (iM_fewestBreaths : Int32) (iM_orderMany : Int32) (iM_orderSum : Int32) (iM_leastOrder : Int32) (rM_often : Nat) (iM_setMany : Int32) (iM_someOf : Int32) (iM_allOf : Int32) (iM_allWeight : Int64) (iM_enoughWeight : Int64) (iM_worthSum : Int64) (iM_firstRest : Int32) (iM_leastDrawn : Int32) (p0 : Int32) (b_iM_taped : 0 ≤ iM_taped.toInt ∧ iM_taped.toInt ≤ 900) (b_iM_size : 0 ≤ iM_size.toInt ∧ iM_size.toInt ≤ 900) (b_iM_end : 0 ≤ iM_end.toInt ∧ iM_end.toInt ≤ 900) (b_iM_nameSize : 0 ≤ iM_nameSize.toInt ∧ iM_nameSize.toInt ≤ 900) (b_iM_failed : 0 ≤ iM_failed.toInt ∧ iM_failed.toInt ≤ 1) (b_iM_hasCourt : 0 ≤ iM_hasCourt.toInt ∧ iM_hasCourt.toInt ≤ 1) (b_iM_undos : 0 ≤ iM_undos.toInt ∧ iM_undos.toInt ≤ 16) (b_iM_images : 0 ≤ iM_images.toInt ∧ iM_images.toInt ≤ 3) (b_iM_scale : 1 ≤ iM_scale.toInt ∧ iM_scale.toInt ≤ 1296) (b_iM_breaths : 0 ≤ iM_breaths.toInt ∧ iM_breaths.toInt ≤ 399) (b_iM_cutMany : 0 ≤ iM_cutMany.toInt ∧ iM_cutMany.toInt ≤ 399) (r_T : ImpP (iM_token.toInt = 2) (iM_nameSize.toInt ≤ 8)) (r_P : POk fM_fresh fM_read) (hp0 : 1 ≤ p0.toInt ∧ p0.toInt ≤ 3) (hil : ImpP (iM_failed.toInt ≤ 0) ((fM_fresh 7).toInt ≤ 7)) (hic : ImpP (iM_failed.toInt ≤ 0 ∧ p0.toInt = 3) ((fM_fresh 8).toInt ≤ 1)) : Met l yX7_innerLine (Cond.code yX7_innerLine cX7_innerLine 7 none :: wG) ({ frames := 7, cells := 0, slots := 0, locals := 175 }) (va_Pc [.ref oM, .int p0] (Pw dC dI sz [(oc7 oM iM_thrown rM_tape iM_taped iM_size iM_at iM_end iM_token iM_whole iM_nameSize iM_fault iM_place iM_trouble rM_letters iM_failed iM_hasCourt rM_r rM_fresh rM_told rM_read rM_st rM_undone rM_kept iM_undos iM_images rM_fresher iM_fresherSize iM_scale iM_night rM_heardRow rM_cutRow iM_breaths iM_cutMany iM_allBreaths rM_trial rM_words iM_fewestBreaths iM_orderMany iM_orderSum iM_leastOrder rM_often iM_setMany iM_someOf iM_allOf iM_allWeight iM_enoughWeight iM_worthSum iM_firstRest iM_leastDrawn), (arI rM_tape kM_tape 900 fM_tape), (arI rM_letters kM_letters 8 fM_letters), (arI rM_fresh kM_fresh 287 fM_fresh), (arI rM_read kM_read 90 fM_read), (arI rM_fresher kM_fresher 8 fM_fresher)] [(kM_tape, .int), (kM_letters, .int), (kM_fresh, .int), (kM_read, .int), (kM_fresher, .int)])) (va_Qv (fun (_ : Nat) => True) (fun (_ : Nat) (t : State) => ∃ (niM_at : Int32) (niM_end : Int32) (niM_token : Int32) (niM_whole : Int32) (niM_nameSize : Int32) (niM_fault : Int32) (niM_place : Int32) (niM_failed : Int32) (niM_fresherSize : Int32) (nfM_letters : Nat → Int32) (nfM_fresh : Nat → Int32) (nfM_read : Nat → Int32) (nfM_fresher : Nat → Int32), (0 ≤ niM_end.toInt ∧ niM_end.toInt ≤ 900) ∧ (0 ≤ niM_nameSize.toInt ∧ niM_nameSize.toInt ≤ 900) ∧ (0 ≤ niM_failed.toInt ∧ niM_failed.toInt ≤ 1) ∧ (iM_end.toInt ≤ niM_end.toInt) ∧ (ImpP (niM_token.toInt = 2) (niM_nameSize.toInt ≤ 8)) ∧ (iM_failed.toInt ≤ niM_failed.toInt) ∧ (ImpP (niM_failed.toInt ≤ 0 ∧ niM_token.toInt = 59 ) (iM_end.toInt + 1 ≤ niM_end.toInt)) ∧ (POk nfM_fresh nfM_read) ∧ (PX7_innerLine fM_tape iM_size iM_at iM_end iM_token iM_whole iM_nameSize iM_fault iM_place fM_letters iM_failed fM_fresh fM_read fM_fresher iM_fresherSize p0 = (niM_at, niM_end, niM_token, niM_whole, niM_nameSize, niM_fault, niM_place, niM_failed, niM_fresherSize, nfM_letters, nfM_fresh, nfM_read, nfM_fresher)) ∧ Bw dC dI (va_A [(oc7 oM iM_thrown rM_tape iM_taped iM_size iM_at iM_end iM_token iM_whole iM_nameSize iM_fault iM_place iM_trouble rM_letters iM_failed iM_hasCourt rM_r rM_fresh rM_told rM_read rM_st rM_undone rM_kept iM_undos iM_images rM_fresher iM_fresherSize iM_scale iM_night rM_heardRow rM_cutRow iM_breaths iM_cutMany iM_allBreaths rM_trial rM_words iM_fewestBreaths iM_orderMany iM_orderSum iM_leastOrder rM_often iM_setMany iM_someOf iM_allOf iM_allWeight iM_enoughWeight iM_worthSum iM_firstRest iM_leastDrawn), (arI rM_tape kM_tape 900 fM_tape), (arI rM_letters kM_letters 8 fM_letters), (arI rM_fresh kM_fresh 287 fM_fresh), (arI rM_read kM_read 90 fM_read), (arI rM_fresher kM_fresher 8 fM_fresher)] sz) [(oc7 oM iM_thrown rM_tape iM_taped iM_size niM_at niM_end niM_token niM_whole niM_nameSize niM_fault niM_place iM_trouble rM_letters niM_failed iM_hasCourt rM_r rM_fresh rM_told rM_read rM_st rM_undone rM_kept iM_undos iM_images rM_fresher niM_fresherSize iM_scale iM_night rM_heardRow rM_cutRow iM_breaths iM_cutMany iM_allBreaths rM_trial rM_words iM_fewestBreaths iM_orderMany iM_orderSum iM_leastOrder rM_often iM_setMany iM_someOf iM_allOf iM_allWeight iM_enoughWeight iM_worthSum iM_firstRest iM_leastDrawn), (arI rM_tape kM_tape 900 fM_tape), (arI rM_letters kM_letters 8 nfM_letters), (arI rM_fresh kM_fresh 287 nfM_fresh), (arI rM_read kM_read 90 nfM_read), (arI rM_fresher kM_fresher 8 nfM_fresher)] [(kM_tape, .int), (kM_letters, .int), (kM_fresh, .int), (kM_read, .int), (kM_fresher, .int)] t) (va_A [(oc7 oM iM_thrown rM_tape iM_taped iM_size iM_at iM_end iM_token iM_whole iM_nameSize iM_fault iM_place iM_trouble rM_letters iM_failed iM_hasCourt rM_r rM_fresh rM_told rM_read rM_st rM_undone rM_kept iM_undos iM_images rM_fresher iM_fresherSize iM_scale iM_night rM_heardRow rM_cutRow iM_breaths iM_cutMany iM_allBreaths rM_trial rM_words iM_fewestBreaths iM_orderMany iM_orderSum iM_leastOrder rM_often iM_setMany iM_someOf iM_allOf iM_allWeight iM_enoughWeight iM_worthSum iM_firstRest iM_leastDrawn), (arI rM_tape kM_tape 900 fM_tape), (arI rM_letters kM_letters 8 fM_letters), (arI rM_fresh kM_fresh 287 fM_fresh), (arI rM_read kM_read 90 fM_read), (arI rM_fresher kM_fresher 8 fM_fresher)] sz)) 0 0 (va_A [(oc7 oM iM_thrown rM_tape iM_taped iM_size iM_at iM_end iM_token iM_whole iM_nameSize iM_fault iM_place iM_trouble rM_letters iM_failed iM_hasCourt rM_r rM_fresh rM_told rM_read rM_st rM_undone rM_kept iM_undos iM_images rM_fresher iM_fresherSize iM_scale iM_night rM_heardRow rM_cutRow iM_breaths iM_cutMany iM_allBreaths rM_trial rM_words iM_fewestBreaths iM_orderMany iM_orderSum iM_leastOrder rM_often iM_setMany iM_someOf iM_allOf iM_allWeight iM_enoughWeight iM_worthSum iM_firstRest iM_leastDrawn), (arI rM_tape kM_tape 900 fM_tape), (arI rM_letters kM_letters 8 fM_letters), (arI rM_fresh kM_fresh 287 fM_fresh), (arI rM_read kM_read 90 fM_read), (arI rM_fresher kM_fresher 8 fM_fresher)] sz) := by
  refine Met.ofW (cc := cX7_innerLine) (maxL := 7) (ret := none) pnX7 rfl ?_
  intro p e s m args below meth c s₁ B hml hv
  obtain ⟨rfl, hsz, hP, hK, hD0, hE⟩ := hv
  have hx := B.exec
  have hb := B.bytes
  have hr := B.returns
  have hts : ∀ w ∈ wG, w.before ([.ref oM, .int p0] : List Value).toArray s = true := fun w h => atoms_spec (ws := Cond.code yX7_innerLine cX7_innerLine 7 none :: wG) B.pre w (List.mem_cons_of_mem _ h)
  have hown : s.vm.findClass RX7 = some m.cls := own_of B.named rfl
  have hlocks := B.notSynchronized
  subst hsz
  have hD := hD0.self (sz := s.heap.size)
  generalize hAe : va_A [(oc7 oM iM_thrown rM_tape iM_taped iM_size iM_at iM_end iM_token iM_whole iM_nameSize iM_fault iM_place iM_trouble rM_letters iM_failed iM_hasCourt rM_r rM_fresh rM_told rM_read rM_st rM_undone rM_kept iM_undos iM_images rM_fresher iM_fresherSize iM_scale iM_night rM_heardRow rM_cutRow iM_breaths iM_cutMany iM_allBreaths rM_trial rM_words iM_fewestBreaths iM_orderMany iM_orderSum iM_leastOrder rM_often iM_setMany iM_someOf iM_allOf iM_allWeight iM_enoughWeight iM_worthSum iM_firstRest iM_leastDrawn), (arI rM_tape kM_tape 900 fM_tape), (arI rM_letters kM_letters 8 fM_letters), (arI rM_fresh kM_fresh 287 fM_fresh), (arI rM_read kM_read 90 fM_read), (arI rM_fresher kM_fresher 8 fM_fresher)] s.heap.size = A at hD hE ⊢
  have hA : ∀ q : Nat, s.heap.size ≤ q → A q := fun q h => by rw [← hAe]; exact Or.inr h
  have hS : va_S A s.heap s.heap [] := va_S.rf
  have hl := lv_entry ([.ref oM, .int p0]) (n := 7) (Nat.le_of_ble_eq_true rfl)
  rw [lg_entry_eq]
  generalize (lg_sl ([.ref oM, .int p0]) ++ List.replicate (7 - (lg_sl ([.ref oM, .int p0])).length) Slot.unset).toArray = ls at hl ⊢
  have hl : lv_has ls 7 [(0, .ref oM), (1, .int p0)] := hl
  have hG := PX7_innerLine_eq fM_tape iM_size iM_at iM_end iM_token iM_whole iM_nameSize iM_fault iM_place fM_letters iM_failed fM_fresh fM_read fM_fresher iM_fresherSize p0
  have pl_fM_fresh := r_P.lins
  refine lv_aload_n hx hb dX7_innerLine_0 rfl (lv_at hl 0 rfl) ?_
  refine va_get (D := (dC, dI)) (ci := 7) (v := .int iM_failed) (C := RX7) (T := TX7) (N := 48) hx hb hts inX7 hown hK hP 0 rfl rfl 13 (by decide) (hts _ wd_380) (fun _ h9 => h9) rfl dX7_innerLine_1 ?_
  refine lv_if_eq (tgt := 8) hx hb dX7_innerLine_4 (by decide) (fun c_6179 => ?_) (fun c_6179 => ?_)
  · skip
    have hG := hG.trans (if_pos c_6179)
    have gc_6179 := ti_eq c_6179 rfl kc_0
    have h_6180 : (fM_fresh 7).toInt ≤ 7 := hil (om_02e9bb08 gc_6179)
    clear hil
    refine lv_aload_n hx hb dX7_innerLine_8 rfl (lv_at hl 0 rfl) ?_
    have hFc := va_freeI hD hS hA
    refine va_callv (va_runV (As := []) (rest := []) ⟨hx, hb, hml, hown, hts⟩ (tX7_newName l dC dI _ oM iM_thrown rM_tape fM_tape kM_tape iM_taped iM_size iM_at iM_end iM_token iM_whole iM_nameSize iM_fault iM_place iM_trouble rM_letters fM_letters kM_letters iM_failed iM_hasCourt rM_r rM_fresh fM_fresh kM_fresh rM_told rM_read fM_read kM_read rM_st rM_undone rM_kept iM_undos iM_images rM_fresher fM_fresher kM_fresher iM_fresherSize iM_scale iM_night rM_heardRow rM_cutRow iM_breaths iM_cutMany iM_allBreaths rM_trial rM_words iM_fewestBreaths iM_orderMany iM_orderSum iM_leastOrder rM_often iM_setMany iM_someOf iM_allOf iM_allWeight iM_enoughWeight iM_worthSum iM_firstRest iM_leastDrawn b_iM_taped b_iM_size b_iM_end b_iM_nameSize b_iM_failed b_iM_hasCourt b_iM_undos b_iM_images b_iM_scale b_iM_breaths b_iM_cutMany r_T r_P) (cwV 0 hts (wd_V wd_462 wd_463 wd_464 wd_5 (wd_c wd_465)) rfl rfl rfl dv_yX7_newName_0 ⟨Nat.le_of_ble_eq_true rfl, Nat.le_of_ble_eq_true rfl⟩) ⟨Pw.fb, recvX7 hK hP (q0 := 0) rfl, fun U hU hW => Pw.to hP hD hK hE hS hFc hU hW⟩ rfl rfl hl.1 rfl (lv_room (Nat.le_of_ble_eq_true rfl)) dX7_innerLine_9 ⟨Nat.le_of_ble_eq_true rfl, Nat.le_of_ble_eq_true rfl⟩) hS (fun q _ h => hFc q h) hFc (fun u t H locs ht hvm hw hB hz1 hk1 hS => ?_)
    refine ex_11_8 hB (fun x_6181 x_6182 x_6183 x_6184 x_6185 x_6186 x_6187 x_6188 x_6189 f_6190 f_6191 b_x_6182 b_x_6185 b_x_6188 e_x_6181_0 e_x_6181_1 e_x_6181_2 e_x_6181_3 e_x_6181_4 hB => ?_)
    obtain ⟨hP, hD⟩ := Bw.goA (ws' := [(oc7 oM iM_thrown rM_tape iM_taped iM_size x_6181 x_6182 x_6183 x_6184 x_6185 x_6186 x_6187 iM_trouble rM_letters x_6188 iM_hasCourt rM_r rM_fresh rM_told rM_read rM_st rM_undone rM_kept iM_undos iM_images rM_fresher x_6189 iM_scale iM_night rM_heardRow rM_cutRow iM_breaths iM_cutMany iM_allBreaths rM_trial rM_words iM_fewestBreaths iM_orderMany iM_orderSum iM_leastOrder rM_often iM_setMany iM_someOf iM_allOf iM_allWeight iM_enoughWeight iM_worthSum iM_firstRest iM_leastDrawn), (arI rM_tape kM_tape 900 fM_tape), (arI rM_letters kM_letters 8 f_6190), (arI rM_fresh kM_fresh 287 fM_fresh), (arI rM_read kM_read 90 fM_read), (arI rM_fresher kM_fresher 8 f_6191)]) hB rfl ht hFc rfl
    clear hz1 hk1 hvm ht hB
    have hG := hG.trans (un11_eq e_x_6181_4)
    clear r_T
    refine lv_aload_n hx hb dX7_innerLine_12 rfl (lv_at hl 0 rfl) ?_
    refine va_get (D := (dC, dI)) (ci := 7) (v := .ref rM_fresh) (C := RX7) (T := TX7) (N := 48) hx hb hts inX7 hown hK hP 0 rfl rfl 16 (by decide) (hts _ wd_156) (fun _ h9 => h9) rfl dX7_innerLine_13 ?_
    refine lv_iconst (v := 1) hx hb dX7_innerLine_16 (by decide) ?_
    refine va_iald hx hb hK hP 3 2 rfl rfl (by unfold vp_in; decide) dX7_innerLine_17 ?_
    refine lv_topi (fun x_6192 ex_6192 => ?_)
    have hG := hG.trans (lt_eq ex_6192)
    have cx_6192 : (fM_fresh 1).toInt = x_6192.toInt := congrArg Int32.toInt (show fM_fresh 1 = x_6192 from ex_6192.symm)
    refine lv_istore_n (lv' := [(2, .int x_6192), (0, .ref oM), (1, .int p0)]) hx hb dX7_innerLine_18 rfl hl (by decide) rfl (fun ls hl => ?_)
    refine lv_iconst (v := 0) hx hb dX7_innerLine_19 (by decide) ?_
    refine lv_istore_n (lv' := [(3, .int 0), (2, .int x_6192), (0, .ref oM), (1, .int p0)]) hx hb dX7_innerLine_20 rfl hl (by decide) rfl (fun ls hl => ?_)
    refine lv_iconst (v := 1) hx hb dX7_innerLine_21 (by decide) ?_
    refine lv_istore (lv' := [(4, .int 1), (3, .int 0), (2, .int x_6192), (0, .ref oM), (1, .int p0)]) hx hb dX7_innerLine_22 hl (by decide) rfl (fun ls hl => ?_)
    have hl := lv_sub hl (l' := [(4, .int 1), (3, .int 0), (2, .int x_6192), (0, .ref oM), (1, .int p0)]) [0, 1, 2, 3, 4] rfl
    have key_n_6206 : ∀ (n_6206 : Nat) (z_6193 : Int32) (z_6194 : Int32) (z_6195 : Int32) (z_6196 : Int32) (z_6197 : Int32) (z_6198 : Int32) (z_6199 : Int32) (z_6200 : Int32) (z_6201 : Int32) (z_6202 : Int32) (f_6203 : Nat → Int32) (f_6204 : Nat → Int32) (f_6205 : Nat → Int32) (H : Heap) (locs : List Loc) (ls : Array Slot), (0 ≤ z_6196.toInt ∧ z_6196.toInt ≤ 900) → (0 ≤ z_6199.toInt ∧ z_6199.toInt ≤ 900) → (0 ≤ z_6202.toInt ∧ z_6202.toInt ≤ 1) → (0 ≤ z_6193.toInt ∧ z_6193.toInt ≤ 4) → (0 ≤ z_6194.toInt ∧ z_6194.toInt ≤ 1) → (POk f_6204 f_6205) → (InOk f_6204 f_6205 (f_6204 1).toNatClampNeg z_6193.toNatClampNeg p0.toInt) → ((f_6204 1).toInt = (fM_fresh 1).toInt ∧ (f_6204 7).toInt = (fM_fresh 7).toInt ∧ (f_6204 8).toInt = (fM_fresh 8).toInt) → (ImpP (z_6194.toInt ≤ 0) (1 ≤ z_6193.toInt)) → (ImpP (z_6197.toInt = 2) (z_6199.toInt ≤ 8)) → (iM_end.toInt ≤ z_6196.toInt) → (ImpP (z_6202.toInt ≤ 0 ∧ z_6197.toInt = 59 ) (iM_end.toInt + 1 ≤ z_6196.toInt)) → (4 - z_6193.toInt).toNat < n_6206 → (PX7_innerLine fM_tape iM_size iM_at iM_end iM_token iM_whole iM_nameSize iM_fault iM_place fM_letters iM_failed fM_fresh fM_read fM_fresher iM_fresherSize p0 = HX7_innerLine_0 fM_tape iM_size p0 x_6189 f_6191 x_6192 n_6206 z_6193 z_6194 z_6195 z_6196 z_6197 z_6198 z_6199 z_6200 z_6201 z_6202 f_6203 f_6204 f_6205) → va_P (dC, dI) vwCl [(oc7 oM iM_thrown rM_tape iM_taped iM_size z_6195 z_6196 z_6197 z_6198 z_6199 z_6200 z_6201 iM_trouble rM_letters z_6202 iM_hasCourt rM_r rM_fresh rM_told rM_read rM_st rM_undone rM_kept iM_undos iM_images rM_fresher x_6189 iM_scale iM_night rM_heardRow rM_cutRow iM_breaths iM_cutMany iM_allBreaths rM_trial rM_words iM_fewestBreaths iM_orderMany iM_orderSum iM_leastOrder rM_often iM_setMany iM_someOf iM_allOf iM_allWeight iM_enoughWeight iM_worthSum iM_firstRest iM_leastDrawn), (arI rM_tape kM_tape 900 fM_tape), (arI rM_letters kM_letters 8 f_6203), (arI rM_fresh kM_fresh 287 f_6204), (arI rM_read kM_read 90 f_6205), (arI rM_fresher kM_fresher 8 f_6191)] H → va_D A [(oc7 oM iM_thrown rM_tape iM_taped iM_size z_6195 z_6196 z_6197 z_6198 z_6199 z_6200 z_6201 iM_trouble rM_letters z_6202 iM_hasCourt rM_r rM_fresh rM_told rM_read rM_st rM_undone rM_kept iM_undos iM_images rM_fresher x_6189 iM_scale iM_night rM_heardRow rM_cutRow iM_breaths iM_cutMany iM_allBreaths rM_trial rM_words iM_fewestBreaths iM_orderMany iM_orderSum iM_leastOrder rM_often iM_setMany iM_someOf iM_allOf iM_allWeight iM_enoughWeight iM_worthSum iM_firstRest iM_leastDrawn), (arI rM_tape kM_tape 900 fM_tape), (arI rM_letters kM_letters 8 f_6203), (arI rM_fresh kM_fresh 287 f_6204), (arI rM_read kM_read 90 f_6205), (arI rM_fresher kM_fresher 8 f_6191)] → va_S A s.heap H locs → lv_has ls 7 [(4, .int z_6194), (3, .int z_6193), (2, .int x_6192), (0, .ref oM), (1, .int p0)] → W p l e (headSpec (Cond.code yX7_innerLine cX7_innerLine 7 none :: wG) ({ frames := 7, cells := 0, slots := 0, locals := 175 })).room s m ([.ref oM, .int p0] : List Value).toArray below meth c H locs 0 0 (MQ below (va_Qv (fun (_ : Nat) => True) (fun (_ : Nat) (t : State) => ∃ (niM_at : Int32) (niM_end : Int32) (niM_token : Int32) (niM_whole : Int32) (niM_nameSize : Int32) (niM_fault : Int32) (niM_place : Int32) (niM_failed : Int32) (niM_fresherSize : Int32) (nfM_letters : Nat → Int32) (nfM_fresh : Nat → Int32) (nfM_read : Nat → Int32) (nfM_fresher : Nat → Int32), (0 ≤ niM_end.toInt ∧ niM_end.toInt ≤ 900) ∧ (0 ≤ niM_nameSize.toInt ∧ niM_nameSize.toInt ≤ 900) ∧ (0 ≤ niM_failed.toInt ∧ niM_failed.toInt ≤ 1) ∧ (iM_end.toInt ≤ niM_end.toInt) ∧ (ImpP (niM_token.toInt = 2) (niM_nameSize.toInt ≤ 8)) ∧ (iM_failed.toInt ≤ niM_failed.toInt) ∧ (ImpP (niM_failed.toInt ≤ 0 ∧ niM_token.toInt = 59 ) (iM_end.toInt + 1 ≤ niM_end.toInt)) ∧ (POk nfM_fresh nfM_read) ∧ (PX7_innerLine fM_tape iM_size iM_at iM_end iM_token iM_whole iM_nameSize iM_fault iM_place fM_letters iM_failed fM_fresh fM_read fM_fresher iM_fresherSize p0 = (niM_at, niM_end, niM_token, niM_whole, niM_nameSize, niM_fault, niM_place, niM_failed, niM_fresherSize, nfM_letters, nfM_fresh, nfM_read, nfM_fresher)) ∧ Bw dC dI A [(oc7 oM iM_thrown rM_tape iM_taped iM_size niM_at niM_end niM_token niM_whole niM_nameSize niM_fault niM_place iM_trouble rM_letters niM_failed iM_hasCourt rM_r rM_fresh rM_told rM_read rM_st rM_undone rM_kept iM_undos iM_images rM_fresher niM_fresherSize iM_scale iM_night rM_heardRow rM_cutRow iM_breaths iM_cutMany iM_allBreaths rM_trial rM_words iM_fewestBreaths iM_orderMany iM_orderSum iM_leastOrder rM_often iM_setMany iM_someOf iM_allOf iM_allWeight iM_enoughWeight iM_worthSum iM_firstRest iM_leastDrawn), (arI rM_tape kM_tape 900 fM_tape), (arI rM_letters kM_letters 8 nfM_letters), (arI rM_fresh kM_fresh 287 nfM_fresh), (arI rM_read kM_read 90 nfM_read), (arI rM_fresher kM_fresher 8 nfM_fresher)] [(kM_tape, .int), (kM_letters, .int), (kM_fresh, .int), (kM_read, .int), (kM_fresher, .int)] t) A) ([.ref oM, .int p0] : List Value).toArray s 0 0 A) (F0 m 24 ls []) := by
      intro n_6206
      induction n_6206 with
      | zero => intro z_6193 z_6194 z_6195 z_6196 z_6197 z_6198 z_6199 z_6200 z_6201 z_6202 f_6203 f_6204 f_6205 H locs ls b_z_6196 b_z_6199 b_z_6202 hi0_n_6206 hi1_n_6206 hi2_n_6206 hi3_n_6206 hi4_n_6206 hi5_n_6206 hi6_n_6206 hi7_n_6206 hi8_n_6206 hm; exact absurd hm (Nat.not_lt_zero _)
      | succ n_6206 ih_n_6206 =>
        intro z_6193 z_6194 z_6195 z_6196 z_6197 z_6198 z_6199 z_6200 z_6201 z_6202 f_6203 f_6204 f_6205 H locs ls b_z_6196 b_z_6199 b_z_6202 hi0_n_6206 hi1_n_6206 hi2_n_6206 hi3_n_6206 hi4_n_6206 hi5_n_6206 hi6_n_6206 hi7_n_6206 hi8_n_6206 hm_n_6206 hG hP hD hS hl
        have hG := hG.trans (HX7_innerLine_0_eq _ _ _ _ _ _ _ _ _ _ _ _ _ _ _ _ _ _ _ _)
        have pl_f_6204 := hi2_n_6206.lins
        refine lv_iload hx hb dX7_innerLine_24 (lv_at hl 0 rfl) ?_
        refine lv_if_eq (tgt := 198) hx hb dX7_innerLine_26 (by decide) (fun c_6207 => ?_) (fun c_6207 => ?_)
        · skip
          have hG := hG.trans (if_pos c_6207)
          have gc_6207 := ti_eq c_6207 rfl kc_0
          have h_6208 : 1 ≤ z_6193.toInt := hi5_n_6206 (om_02e9bb08 gc_6207)
          clear hi5_n_6206
          refine lv_aload_n hx hb dX7_innerLine_198 rfl (lv_at hl 3 rfl) ?_
          refine va_get (D := (dC, dI)) (ci := 7) (v := .int z_6202) (C := RX7) (T := TX7) (N := 48) hx hb hts inX7 hown hK hP 0 rfl rfl 13 (by decide) (hts _ wd_380) (fun _ h9 => h9) rfl dX7_innerLine_199 ?_
          refine lv_if_eq (tgt := 206) hx hb dX7_innerLine_202 (by decide) (fun c_6209 => ?_) (fun c_6209 => ?_)
          · skip
            have hG := hG.trans (if_pos c_6209)
            have gc_6209 := ti_eq c_6209 rfl kc_0
            refine lv_aload_n hx hb dX7_innerLine_206 rfl (lv_at hl 3 rfl) ?_
            refine va_get (D := (dC, dI)) (ci := 7) (v := .ref rM_fresh) (C := RX7) (T := TX7) (N := 48) hx hb hts inX7 hown hK hP 0 rfl rfl 16 (by decide) (hts _ wd_156) (fun _ h9 => h9) rfl dX7_innerLine_207 ?_
            refine lv_bipush (v := 27) hx hb dX7_innerLine_210 (by decide) ?_
            refine lv_iload_n hx hb dX7_innerLine_212 rfl (lv_at hl 2 rfl) ?_
            refine lv_iadd hx hb dX7_innerLine_213 ?_
            refine lv_topi (fun x_6210 ex_6210 => ?_)
            have hG := hG.trans (lt_eq ex_6210)
            have vx_6210 : x_6210.toInt = x_6192.toInt + 27 := om_6c48219a (ti_add ex_6210 kc_27 rfl (om_41e8b5f2 pl_fM_fresh.2.2.2.2.1.1 pl_fM_fresh.2.2.2.2.1.2 cx_6192) (om_2e953c3d pl_fM_fresh.2.1 pl_fM_fresh.2.2.1.2 pl_fM_fresh.2.2.2.2.2.1.2 cx_6192))
            refine lv_iload_n hx hb dX7_innerLine_214 rfl (lv_at hl 1 rfl) ?_
            refine va_iast hx hb hK hP hD hS 3 2 rfl rfl (ti_in vx_6210 (om_88805813 pl_fM_fresh.2.2.2.2.1.1 pl_fM_fresh.2.2.2.2.1.2 cx_6192) (om_400ea2f3 pl_fM_fresh.2.1 pl_fM_fresh.2.2.1.2 pl_fM_fresh.2.2.2.2.2.1.2 cx_6192)) dX7_innerLine_215 (fun H locs hP hD hS => ?_)
            obtain ⟨f_6211, ef_6211⟩ : ∃ g : Nat → Int32, g = upd f_6204 x_6210.toNatClampNeg z_6193 := ⟨_, rfl⟩
            rw [← ef_6211] at hP hD
            have hG := hG.trans (lt_eq ef_6211)
            obtain ⟨hP, hD⟩ := wl2 (ws' := [(oc7 oM iM_thrown rM_tape iM_taped iM_size z_6195 z_6196 z_6197 z_6198 z_6199 z_6200 z_6201 iM_trouble rM_letters z_6202 iM_hasCourt rM_r rM_fresh rM_told rM_read rM_st rM_undone rM_kept iM_undos iM_images rM_fresher x_6189 iM_scale iM_night rM_heardRow rM_cutRow iM_breaths iM_cutMany iM_allBreaths rM_trial rM_words iM_fewestBreaths iM_orderMany iM_orderSum iM_leastOrder rM_often iM_setMany iM_someOf iM_allOf iM_allWeight iM_enoughWeight iM_worthSum iM_firstRest iM_leastDrawn), (arI rM_tape kM_tape 900 fM_tape), (arI rM_letters kM_letters 8 f_6203), (arI rM_fresh kM_fresh 287 f_6211), (arI rM_read kM_read 90 f_6205), (arI rM_fresher kM_fresher 8 f_6191)]) hP hD rfl
            have o1_f_6211 : (f_6211 1).toInt = (f_6204 1).toInt := put_at ef_6211 (Nat.ne_of_lt (om_748d98c6 (ti_cl (x := x_6210) vx_6210 (om_88805813 pl_fM_fresh.2.2.2.2.1.1 pl_fM_fresh.2.2.2.2.1.2 cx_6192)) pl_fM_fresh.2.2.2.2.1.1 pl_fM_fresh.2.2.2.2.1.2 cx_6192))
            have o7_f_6211 : (f_6211 7).toInt = (f_6204 7).toInt := put_at ef_6211 (Nat.ne_of_lt (om_62246ba3 (ti_cl (x := x_6210) vx_6210 (om_88805813 pl_fM_fresh.2.2.2.2.1.1 pl_fM_fresh.2.2.2.2.1.2 cx_6192)) pl_fM_fresh.2.2.2.2.1.1 pl_fM_fresh.2.2.2.2.1.2 cx_6192))
            have o8_f_6211 : (f_6211 8).toInt = (f_6204 8).toInt := put_at ef_6211 (Nat.ne_of_lt (om_4d313e7b (ti_cl (x := x_6210) vx_6210 (om_88805813 pl_fM_fresh.2.2.2.2.1.1 pl_fM_fresh.2.2.2.2.1.2 cx_6192)) pl_fM_fresh.2.2.2.2.1.1 pl_fM_fresh.2.2.2.2.1.2 cx_6192))
            refine lv_aload_n hx hb dX7_innerLine_216 rfl (lv_at hl 3 rfl) ?_
            refine lv_iload_n hx hb dX7_innerLine_217 rfl (lv_at hl 4 rfl) ?_
            have hMs := ml_of hD [true, false, false, true, false, true] (wc := [(oc7 oM iM_thrown rM_tape iM_taped iM_size z_6195 z_6196 z_6197 z_6198 z_6199 z_6200 z_6201 iM_trouble rM_letters z_6202 iM_hasCourt rM_r rM_fresh rM_told rM_read rM_st rM_undone rM_kept iM_undos iM_images rM_fresher x_6189 iM_scale iM_night rM_heardRow rM_cutRow iM_breaths iM_cutMany iM_allBreaths rM_trial rM_words iM_fewestBreaths iM_orderMany iM_orderSum iM_leastOrder rM_often iM_setMany iM_someOf iM_allOf iM_allWeight iM_enoughWeight iM_worthSum iM_firstRest iM_leastDrawn), (arI rM_fresh kM_fresh 287 f_6211), (arI rM_fresher kM_fresher 8 f_6191)]) rfl
            have hFc := va_freeM hD hS hA _ hMs
            refine va_callv (va_runV (As := [.int p0]) (rest := []) ⟨hx, hb, hml, hown, hts⟩ (tX7_lay l dC dI _ oM iM_thrown rM_tape iM_taped iM_size z_6195 z_6196 z_6197 z_6198 z_6199 z_6200 z_6201 iM_trouble rM_letters z_6202 iM_hasCourt rM_r rM_fresh f_6211 kM_fresh rM_told rM_read rM_st rM_undone rM_kept iM_undos iM_images rM_fresher f_6191 kM_fresher x_6189 iM_scale iM_night rM_heardRow rM_cutRow iM_breaths iM_cutMany iM_allBreaths rM_trial rM_words iM_fewestBreaths iM_orderMany iM_orderSum iM_leastOrder rM_often iM_setMany iM_someOf iM_allOf iM_allWeight iM_enoughWeight iM_worthSum iM_firstRest iM_leastDrawn p0 b_iM_taped b_iM_size b_z_6196 b_z_6199 b_z_6202 b_iM_hasCourt b_iM_undos b_iM_images b_iM_scale b_iM_breaths b_iM_cutMany hi6_n_6206 (om_02e9bb08 gc_6209) ⟨(om_a12d6474 pl_f_6204.2.2.2.2.1.1 pl_f_6204.2.2.2.2.1.2 o1_f_6211), (om_10e45097 pl_fM_fresh.2.1 pl_fM_fresh.2.2.1.2 h_6180 hi4_n_6206.1 o1_f_6211)⟩) (cwV 1 hts (wd_V wd_478 wd_479 wd_480 wd_5 (wd_c wd_481)) rfl rfl rfl dv_yX7_lay_1 ⟨Nat.le_of_ble_eq_true rfl, Nat.le_of_ble_eq_true rfl⟩) ⟨Pw.fb, recvX7 hK hP (q0 := 0) rfl, fun U hU hW => Pw.to (hP.ms _ hMs) (hD.ms _ hMs) (hK.ms [false, false, true, false, true] rfl) hE hS hFc hU hW⟩ rfl rfl hl.1 rfl (lv_room (Nat.le_of_ble_eq_true rfl)) dX7_innerLine_218 ⟨Nat.le_of_ble_eq_true rfl, Nat.le_of_ble_eq_true rfl⟩) hS (fun q _ h => hFc q h) hFc (fun u t H locs ht hvm hw hB hz1 hk1 hS => ?_)
            refine ex_1_2 hB (fun f_6212 e_f_6212_0 e_f_6212_1 hB => ?_)
            obtain ⟨hP, hD⟩ := Bw.goN (ws' := [(oc7 oM iM_thrown rM_tape iM_taped iM_size z_6195 z_6196 z_6197 z_6198 z_6199 z_6200 z_6201 iM_trouble rM_letters z_6202 iM_hasCourt rM_r rM_fresh rM_told rM_read rM_st rM_undone rM_kept iM_undos iM_images rM_fresher x_6189 iM_scale iM_night rM_heardRow rM_cutRow iM_breaths iM_cutMany iM_allBreaths rM_trial rM_words iM_fewestBreaths iM_orderMany iM_orderSum iM_leastOrder rM_often iM_setMany iM_someOf iM_allOf iM_allWeight iM_enoughWeight iM_worthSum iM_firstRest iM_leastDrawn), (arI rM_tape kM_tape 900 fM_tape), (arI rM_letters kM_letters 8 f_6203), (arI rM_fresh kM_fresh 287 f_6212), (arI rM_read kM_read 90 f_6205), (arI rM_fresher kM_fresher 8 f_6191)]) hB rfl ht hP hD _ hMs hk1 hFc rfl
            clear hz1 hk1 hvm ht hB hMs
            have o2_f_6212 : (f_6212 2).toInt = (f_6211 2).toInt := by rw [(e_f_6212_0).2.2.1 2 (by decide) (by decide) (Nat.ne_of_lt (Nat.lt_of_lt_of_le (by decide) (Nat.le_add_right 9 _)))]
            have o7_f_6212 : (f_6212 7).toInt = (f_6211 7).toInt := by rw [(e_f_6212_0).2.2.1 7 (by decide) (by decide) (Nat.ne_of_lt (Nat.lt_of_lt_of_le (by decide) (Nat.le_add_right 9 _)))]
            have o8_f_6212 : (f_6212 8).toInt = (f_6211 8).toInt := by rw [(e_f_6212_0).2.2.1 8 (by decide) (by decide) (Nat.ne_of_lt (Nat.lt_of_lt_of_le (by decide) (Nat.le_add_right 9 _)))]
            have hG := hG.trans (lt_eq e_f_6212_1.symm)
            refine lv_aload_n hx hb dX7_innerLine_221 rfl (lv_at hl 3 rfl) ?_
            refine va_get (D := (dC, dI)) (ci := 7) (v := .ref rM_fresh) (C := RX7) (T := TX7) (N := 48) hx hb hts inX7 hown hK hP 0 rfl rfl 16 (by decide) (hts _ wd_156) (fun _ h9 => h9) rfl dX7_innerLine_222 ?_
            refine lv_bipush (v := 7) hx hb dX7_innerLine_225 (by decide) ?_
            refine lv_dup2_11 hx hb dX7_innerLine_227 rfl rfl ?_
            refine va_iald hx hb hK hP 3 2 rfl rfl (by unfold vp_in; decide) dX7_innerLine_228 ?_
            refine lv_topi (fun x_6213 ex_6213 => ?_)
            have hG := hG.trans (lt_eq ex_6213)
            have cx_6213 : (f_6212 7).toInt = x_6213.toInt := congrArg Int32.toInt (show f_6212 7 = x_6213 from ex_6213.symm)
            refine lv_iconst (v := 1) hx hb dX7_innerLine_229 (by decide) ?_
            refine lv_iadd hx hb dX7_innerLine_230 ?_
            refine lv_topi (fun x_6214 ex_6214 => ?_)
            have hG := hG.trans (lt_eq ex_6214)
            have vx_6214 : x_6214.toInt = x_6213.toInt + 1 := ti_add ex_6214 rfl kc_1 (om_5f3e4666 pl_f_6204.2.2.2.2.2.1.1 o7_f_6211 o7_f_6212 cx_6213) (om_ac8e3760 pl_f_6204.2.2.2.2.2.1.2 o7_f_6211 o7_f_6212 cx_6213)
            refine va_iast hx hb hK hP hD hS 3 2 rfl rfl (by unfold vp_in; decide) dX7_innerLine_231 (fun H locs hP hD hS => ?_)
            obtain ⟨f_6215, ef_6215⟩ : ∃ g : Nat → Int32, g = upd f_6212 (7 : Int32).toNatClampNeg x_6214 := ⟨_, rfl⟩
            rw [← ef_6215] at hP hD
            have hG := hG.trans (lt_eq ef_6215)
            obtain ⟨hP, hD⟩ := wl2 (ws' := [(oc7 oM iM_thrown rM_tape iM_taped iM_size z_6195 z_6196 z_6197 z_6198 z_6199 z_6200 z_6201 iM_trouble rM_letters z_6202 iM_hasCourt rM_r rM_fresh rM_told rM_read rM_st rM_undone rM_kept iM_undos iM_images rM_fresher x_6189 iM_scale iM_night rM_heardRow rM_cutRow iM_breaths iM_cutMany iM_allBreaths rM_trial rM_words iM_fewestBreaths iM_orderMany iM_orderSum iM_leastOrder rM_often iM_setMany iM_someOf iM_allOf iM_allWeight iM_enoughWeight iM_worthSum iM_firstRest iM_leastDrawn), (arI rM_tape kM_tape 900 fM_tape), (arI rM_letters kM_letters 8 f_6203), (arI rM_fresh kM_fresh 287 f_6215), (arI rM_read kM_read 90 f_6205), (arI rM_fresher kM_fresher 8 f_6191)]) hP hD rfl
            have o8_f_6215 : (f_6215 8).toInt = (f_6212 8).toInt := put_at ef_6215 (by decide)
            refine lv_aload_n hx hb dX7_innerLine_232 rfl (lv_at hl 3 rfl) ?_
            refine va_get (D := (dC, dI)) (ci := 7) (v := .ref rM_fresh) (C := RX7) (T := TX7) (N := 48) hx hb hts inX7 hown hK hP 0 rfl rfl 16 (by decide) (hts _ wd_156) (fun _ h9 => h9) rfl dX7_innerLine_233 ?_
            refine lv_bipush (v := 8) hx hb dX7_innerLine_236 (by decide) ?_
            refine lv_dup2_11 hx hb dX7_innerLine_238 rfl rfl ?_
            refine va_iald hx hb hK hP 3 2 rfl rfl (by unfold vp_in; decide) dX7_innerLine_239 ?_
            refine lv_topi (fun x_6216 ex_6216 => ?_)
            have hG := hG.trans (lt_eq ex_6216)
            have cx_6216 : (f_6215 8).toInt = x_6216.toInt := congrArg Int32.toInt (show f_6215 8 = x_6216 from ex_6216.symm)
            refine lv_iload_n hx hb dX7_innerLine_240 rfl (lv_at hl 4 rfl) ?_
            refine lv_iconst (v := 3) hx hb dX7_innerLine_241 (by decide) ?_
            refine lv_icmp_ne (tgt := 249) hx hb dX7_innerLine_242 (by decide) (fun c_6217 => ?_) (fun c_6217 => ?_)
            · skip
              have hG := hG.trans (if_neg c_6217)
              have gc_6217 := ti_ne c_6217 rfl kc_3
              replace gc_6217 : p0.toInt + (-2) ≤ 0 := om_b7ea5ffe gc_6217 hp0.2
              clear hic
              refine lv_iconst (v := 0) hx hb dX7_innerLine_249 (by decide) ?_
              refine lv_iadd hx hb dX7_innerLine_250 ?_
              refine lv_topi (fun x_6218 ex_6218 => ?_)
              have hG := hG.trans (lt_eq ex_6218)
              have vx_6218 : x_6218.toInt = x_6216.toInt := om_75165550 (ti_add ex_6218 rfl kc_0 (om_5483085b pl_f_6204.2.2.2.2.2.2.1 o8_f_6211 o8_f_6212 o8_f_6215 cx_6216) (om_2ab9c540 pl_f_6204.2.2.2.2.2.2.2 o8_f_6211 o8_f_6212 o8_f_6215 cx_6216))
              refine va_iast hx hb hK hP hD hS 3 2 rfl rfl (by unfold vp_in; decide) dX7_innerLine_251 (fun H locs hP hD hS => ?_)
              obtain ⟨f_6219, ef_6219⟩ : ∃ g : Nat → Int32, g = upd f_6215 (8 : Int32).toNatClampNeg x_6218 := ⟨_, rfl⟩
              rw [← ef_6219] at hP hD
              have hG := hG.trans (lt_eq ef_6219)
              obtain ⟨hP, hD⟩ := wl2 (ws' := [(oc7 oM iM_thrown rM_tape iM_taped iM_size z_6195 z_6196 z_6197 z_6198 z_6199 z_6200 z_6201 iM_trouble rM_letters z_6202 iM_hasCourt rM_r rM_fresh rM_told rM_read rM_st rM_undone rM_kept iM_undos iM_images rM_fresher x_6189 iM_scale iM_night rM_heardRow rM_cutRow iM_breaths iM_cutMany iM_allBreaths rM_trial rM_words iM_fewestBreaths iM_orderMany iM_orderSum iM_leastOrder rM_often iM_setMany iM_someOf iM_allOf iM_allWeight iM_enoughWeight iM_worthSum iM_firstRest iM_leastDrawn), (arI rM_tape kM_tape 900 fM_tape), (arI rM_letters kM_letters 8 f_6203), (arI rM_fresh kM_fresh 287 f_6219), (arI rM_read kM_read 90 f_6205), (arI rM_fresher kM_fresher 8 f_6191)]) hP hD rfl
              have pk_f_6219 : POk f_6219 f_6205 := POk.inner (f := f_6204) (m := z_6193.toNatClampNeg) hi2_n_6206 ef_6211 (by have q9 := ti_cl (x := x_6210) vx_6210 (om_88805813 pl_fM_fresh.2.2.2.2.1.1 pl_fM_fresh.2.2.2.2.1.2 cx_6192); have q2 := ti_cl (x := f_6204 1) rfl (by omega); omega) (by have q3 := ti_cl (x := z_6193) rfl hi0_n_6206.1; omega) (by have q3 := ti_cl (x := z_6193) rfl hi0_n_6206.1; omega) (by have q3 := ti_cl (x := z_6193) rfl hi0_n_6206.1; omega) e_f_6212_0 (by omega) ef_6215 rfl (by have q := vx_6214; omega) ef_6219 rfl (by have q := vx_6218; have q0 := kc_0; have q1 := kc_1; first | (rw [if_pos (by omega)]; omega) | (rw [if_neg (by omega)]; omega)) (by omega) (fun h9 => by omega) hi3_n_6206
              have pl_f_6219 := pk_f_6219.lins
              exact wq_v hx hb hr 0 trivial (fun t ht hW => ⟨z_6195, z_6196, z_6197, z_6198, z_6199, z_6200, z_6201, z_6202, x_6189, f_6203, f_6219, f_6205, f_6191, b_z_6196, b_z_6199, b_z_6202, hi7_n_6206, hi6_n_6206, (om_1fc3dec6 gc_6179 b_z_6202.1), hi8_n_6206, pk_f_6219, hG, Bw.to hP hD hK ht hW⟩) hS dX7_innerLine_252 hlocks
            · skip
              have hG := hG.trans (if_pos c_6217)
              have gc_6217 := ti_eq c_6217 rfl kc_3
              have h_6220 : (fM_fresh 8).toInt ≤ 1 := hic ⟨(om_02e9bb08 gc_6179), (om_ce492ef9 hp0.2 gc_6217)⟩
              clear hic
              refine lv_iconst (v := 1) hx hb dX7_innerLine_245 (by decide) ?_
              refine lv_goto (tgt := 250) hx hb dX7_innerLine_246 (by decide) ?_
              refine lv_iadd hx hb dX7_innerLine_250 ?_
              refine lv_topi (fun x_6221 ex_6221 => ?_)
              have hG := hG.trans (lt_eq ex_6221)
              have vx_6221 : x_6221.toInt = x_6216.toInt + 1 := ti_add ex_6221 rfl kc_1 (om_d0c17b76 pl_f_6204.2.2.2.2.2.2.1 o8_f_6211 o8_f_6212 o8_f_6215 cx_6216) (om_387097be pl_f_6204.2.2.2.2.2.2.2 o8_f_6211 o8_f_6212 o8_f_6215 cx_6216)
              refine va_iast hx hb hK hP hD hS 3 2 rfl rfl (by unfold vp_in; decide) dX7_innerLine_251 (fun H locs hP hD hS => ?_)
              obtain ⟨f_6222, ef_6222⟩ : ∃ g : Nat → Int32, g = upd f_6215 (8 : Int32).toNatClampNeg x_6221 := ⟨_, rfl⟩
              rw [← ef_6222] at hP hD
              have hG := hG.trans (lt_eq ef_6222)
              obtain ⟨hP, hD⟩ := wl2 (ws' := [(oc7 oM iM_thrown rM_tape iM_taped iM_size z_6195 z_6196 z_6197 z_6198 z_6199 z_6200 z_6201 iM_trouble rM_letters z_6202 iM_hasCourt rM_r rM_fresh rM_told rM_read rM_st rM_undone rM_kept iM_undos iM_images rM_fresher x_6189 iM_scale iM_night rM_heardRow rM_cutRow iM_breaths iM_cutMany iM_allBreaths rM_trial rM_words iM_fewestBreaths iM_orderMany iM_orderSum iM_leastOrder rM_often iM_setMany iM_someOf iM_allOf iM_allWeight iM_enoughWeight iM_worthSum iM_firstRest iM_leastDrawn), (arI rM_tape kM_tape 900 fM_tape), (arI rM_letters kM_letters 8 f_6203), (arI rM_fresh kM_fresh 287 f_6222), (arI rM_read kM_read 90 f_6205), (arI rM_fresher kM_fresher 8 f_6191)]) hP hD rfl
              have pk_f_6222 : POk f_6222 f_6205 := POk.inner (f := f_6204) (m := z_6193.toNatClampNeg) hi2_n_6206 ef_6211 (by have q9 := ti_cl (x := x_6210) vx_6210 (om_88805813 pl_fM_fresh.2.2.2.2.1.1 pl_fM_fresh.2.2.2.2.1.2 cx_6192); have q2 := ti_cl (x := f_6204 1) rfl (by omega); omega) (by have q3 := ti_cl (x := z_6193) rfl hi0_n_6206.1; omega) (by have q3 := ti_cl (x := z_6193) rfl hi0_n_6206.1; omega) (by have q3 := ti_cl (x := z_6193) rfl hi0_n_6206.1; omega) e_f_6212_0 (by omega) ef_6215 rfl (by have q := vx_6214; omega) ef_6222 rfl (by have q := vx_6221; have q0 := kc_0; have q1 := kc_1; first | (rw [if_pos (by omega)]; omega) | (rw [if_neg (by omega)]; omega)) (by omega) (fun h9 => by omega) hi3_n_6206
              have pl_f_6222 := pk_f_6222.lins
              exact wq_v hx hb hr 0 trivial (fun t ht hW => ⟨z_6195, z_6196, z_6197, z_6198, z_6199, z_6200, z_6201, z_6202, x_6189, f_6203, f_6222, f_6205, f_6191, b_z_6196, b_z_6199, b_z_6202, hi7_n_6206, hi6_n_6206, (om_1fc3dec6 gc_6179 b_z_6202.1), hi8_n_6206, pk_f_6222, hG, Bw.to hP hD hK ht hW⟩) hS dX7_innerLine_252 hlocks
          · skip
            have hG := hG.trans (if_neg c_6209)
            have gc_6209 := ti_ne c_6209 rfl kc_0
            replace gc_6209 : (-1) * z_6202.toInt + 1 ≤ 0 := om_e3003f79 gc_6209 b_z_6202.1
            exact wq_v hx hb hr 0 trivial (fun t ht hW => ⟨z_6195, z_6196, z_6197, z_6198, z_6199, z_6200, z_6201, z_6202, x_6189, f_6203, f_6204, f_6205, f_6191, b_z_6196, b_z_6199, b_z_6202, hi7_n_6206, hi6_n_6206, (om_1fc3dec6 gc_6179 b_z_6202.1), hi8_n_6206, hi2_n_6206, hG, Bw.to hP hD hK ht hW⟩) hS dX7_innerLine_205 hlocks
        · skip
          have hG := hG.trans (if_neg c_6207)
          have gc_6207 := ti_ne c_6207 rfl kc_0
          replace gc_6207 : (-1) * z_6194.toInt + 1 ≤ 0 := om_e3003f79 gc_6207 hi1_n_6206.1
          clear hi5_n_6206
          refine lv_aload_n hx hb dX7_innerLine_29 rfl (lv_at hl 3 rfl) ?_
          refine va_get (D := (dC, dI)) (ci := 7) (v := .int z_6202) (C := RX7) (T := TX7) (N := 48) hx hb hts inX7 hown hK hP 0 rfl rfl 13 (by decide) (hts _ wd_380) (fun _ h9 => h9) rfl dX7_innerLine_30 ?_
          refine lv_if_ne (tgt := 198) hx hb dX7_innerLine_33 (by decide) (fun c_6223 => ?_) (fun c_6223 => ?_)
          · skip
            have hG := hG.trans (if_neg c_6223)
            have gc_6223 := ti_ne c_6223 rfl kc_0
            replace gc_6223 : (-1) * z_6202.toInt + 1 ≤ 0 := om_e3003f79 gc_6223 b_z_6202.1
            refine lv_aload_n hx hb dX7_innerLine_198 rfl (lv_at hl 3 rfl) ?_
            refine va_get (D := (dC, dI)) (ci := 7) (v := .int z_6202) (C := RX7) (T := TX7) (N := 48) hx hb hts inX7 hown hK hP 0 rfl rfl 13 (by decide) (hts _ wd_380) (fun _ h9 => h9) rfl dX7_innerLine_199 ?_
            refine lv_if_eq (tgt := 206) hx hb dX7_innerLine_202 (by decide) (fun c_6224 => ?_) (fun c_6224 => ?_)
            · skip
              have hG := hG.trans (if_pos c_6224)
              have gc_6224 := ti_eq c_6224 rfl kc_0
              exact ((om_77e4ddb5 gc_6223 gc_6224)).elim
            · skip
              have hG := hG.trans (if_neg c_6224)
              have gc_6224 := ti_ne c_6224 rfl kc_0
              replace gc_6224 : (-1) * z_6202.toInt + 1 ≤ 0 := om_e3003f79 gc_6224 b_z_6202.1
              exact wq_v hx hb hr 0 trivial (fun t ht hW => ⟨z_6195, z_6196, z_6197, z_6198, z_6199, z_6200, z_6201, z_6202, x_6189, f_6203, f_6204, f_6205, f_6191, b_z_6196, b_z_6199, b_z_6202, hi7_n_6206, hi6_n_6206, (om_1fc3dec6 gc_6179 b_z_6202.1), hi8_n_6206, hi2_n_6206, hG, Bw.to hP hD hK ht hW⟩) hS dX7_innerLine_205 hlocks
          · skip
            have hG := hG.trans (if_pos c_6223)
            have gc_6223 := ti_eq c_6223 rfl kc_0
            refine lv_aload_n hx hb dX7_innerLine_36 rfl (lv_at hl 3 rfl) ?_
            have hMs := ml_of hD [true, false, true, true, true, false] (wc := [(oc7 oM iM_thrown rM_tape iM_taped iM_size z_6195 z_6196 z_6197 z_6198 z_6199 z_6200 z_6201 iM_trouble rM_letters z_6202 iM_hasCourt rM_r rM_fresh rM_told rM_read rM_st rM_undone rM_kept iM_undos iM_images rM_fresher x_6189 iM_scale iM_night rM_heardRow rM_cutRow iM_breaths iM_cutMany iM_allBreaths rM_trial rM_words iM_fewestBreaths iM_orderMany iM_orderSum iM_leastOrder rM_often iM_setMany iM_someOf iM_allOf iM_allWeight iM_enoughWeight iM_worthSum iM_firstRest iM_leastDrawn), (arI rM_letters kM_letters 8 f_6203), (arI rM_fresh kM_fresh 287 f_6204), (arI rM_read kM_read 90 f_6205)]) rfl
            have hFc := va_freeM hD hS hA _ hMs
            refine va_calli (va_runV (As := []) (rest := []) ⟨hx, hb, hml, hown, hts⟩ (tX7_nodeHere l dC dI _ oM iM_thrown rM_tape iM_taped iM_size z_6195 z_6196 z_6197 z_6198 z_6199 z_6200 z_6201 iM_trouble rM_letters f_6203 kM_letters z_6202 iM_hasCourt rM_r rM_fresh f_6204 kM_fresh rM_told rM_read f_6205 kM_read rM_st rM_undone rM_kept iM_undos iM_images rM_fresher x_6189 iM_scale iM_night rM_heardRow rM_cutRow iM_breaths iM_cutMany iM_allBreaths rM_trial rM_words iM_fewestBreaths iM_orderMany iM_orderSum iM_leastOrder rM_often iM_setMany iM_someOf iM_allOf iM_allWeight iM_enoughWeight iM_worthSum iM_firstRest iM_leastDrawn b_iM_taped b_iM_size b_z_6196 b_z_6199 b_z_6202 b_iM_hasCourt b_iM_undos b_iM_images b_iM_scale b_iM_breaths b_iM_cutMany hi6_n_6206 hi2_n_6206) (cwV 0 hts (wd_V wd_486 wd_487 wd_488 wd_5 (wd_c wd_489)) rfl rfl rfl dv_yX7_nodeHere_0 ⟨Nat.le_of_ble_eq_true rfl, Nat.le_of_ble_eq_true rfl⟩) ⟨Pw.fb, recvX7 hK hP (q0 := 0) rfl, fun U hU hW => Pw.to (hP.ms _ hMs) (hD.ms _ hMs) (hK.ms [false, true, true, true, false] rfl) hE hS hFc hU hW⟩ rfl rfl hl.1 rfl (lv_room (Nat.le_of_ble_eq_true rfl)) dX7_innerLine_37 ⟨Nat.le_of_ble_eq_true rfl, Nat.le_of_ble_eq_true rfl⟩) hS (fun q _ h => hFc q h) hFc (fun r u t H locs ht hvm hw hB hz1 hk1 hS => ?_)
            have hru9 := hw.2
            have hw := hw.1
            refine ex_3_4 hB (fun x_6225 x_6226 x_6227 b_x_6227 e_x_6225_0 e_x_6225_1 e_x_6225_2 hB => ?_)
            obtain ⟨hP, hD⟩ := Bw.goN (ws' := [(oc7 oM iM_thrown rM_tape iM_taped iM_size z_6195 z_6196 z_6197 z_6198 z_6199 x_6225 x_6226 iM_trouble rM_letters x_6227 iM_hasCourt rM_r rM_fresh rM_told rM_read rM_st rM_undone rM_kept iM_undos iM_images rM_fresher x_6189 iM_scale iM_night rM_heardRow rM_cutRow iM_breaths iM_cutMany iM_allBreaths rM_trial rM_words iM_fewestBreaths iM_orderMany iM_orderSum iM_leastOrder rM_often iM_setMany iM_someOf iM_allOf iM_allWeight iM_enoughWeight iM_worthSum iM_firstRest iM_leastDrawn), (arI rM_tape kM_tape 900 fM_tape), (arI rM_letters kM_letters 8 f_6203), (arI rM_fresh kM_fresh 287 f_6204), (arI rM_read kM_read 90 f_6205), (arI rM_fresher kM_fresher 8 f_6191)]) hB rfl ht hP hD _ hMs hk1 hFc rfl
            clear hz1 hk1 hvm ht hB hMs
            rw [← hru9] at e_x_6225_2
            obtain ⟨x_6228, rfl⟩ : ∃ z, z = r := ⟨_, rfl⟩
            have hG := hG.trans (un4_eq e_x_6225_2)
            have lx_6228 := hw.2
            have ux_6228 := hw.2
            refine lv_istore (lv' := [(5, .int x_6228), (4, .int z_6194), (3, .int z_6193), (2, .int x_6192), (0, .ref oM), (1, .int p0)]) hx hb dX7_innerLine_40 hl (by decide) rfl (fun ls hl => ?_)
            refine lv_iconst (v := 0) hx hb dX7_innerLine_42 (by decide) ?_
            refine lv_istore (lv' := [(6, .int 0), (5, .int x_6228), (4, .int z_6194), (3, .int z_6193), (2, .int x_6192), (0, .ref oM), (1, .int p0)]) hx hb dX7_innerLine_43 hl (by decide) rfl (fun ls hl => ?_)
            have hl := lv_sub hl (l' := [(6, .int 0), (5, .int x_6228), (4, .int z_6194), (3, .int z_6193), (2, .int x_6192), (0, .ref oM), (1, .int p0)]) [0, 1, 2, 3, 4, 5, 6] rfl
            have key_n_6233 : ∀ (n_6233 : Nat) (z_6229 : Int32) (z_6230 : Int32) (z_6231 : Int32) (z_6232 : Int32) (H : Heap) (locs : List Loc) (ls : Array Slot), (0 ≤ z_6230.toInt ∧ z_6230.toInt ≤ 1) → (0 ≤ z_6229.toInt ∧ z_6229.toInt ≤ z_6193.toInt) → (x_6227.toInt ≤ z_6230.toInt) → (NeI z_6230.toInt z_6229.toNatClampNeg f_6205 x_6192.toNatClampNeg x_6228.toInt) → (z_6193.toInt - z_6229.toInt).toNat < n_6233 → (PX7_innerLine fM_tape iM_size iM_at iM_end iM_token iM_whole iM_nameSize iM_fault iM_place fM_letters iM_failed fM_fresh fM_read fM_fresher iM_fresherSize p0 = HX7_innerLine_1 fM_tape iM_size p0 x_6189 f_6191 x_6192 z_6193 z_6195 z_6196 z_6197 z_6198 z_6199 f_6203 f_6204 f_6205 x_6228 (fun (z_6193 : Int32) (z_6194 : Int32) (z_6195 : Int32) (z_6196 : Int32) (z_6197 : Int32) (z_6198 : Int32) (z_6199 : Int32) (z_6200 : Int32) (z_6201 : Int32) (z_6202 : Int32) (f_6203 : Nat → Int32) (f_6204 : Nat → Int32) (f_6205 : Nat → Int32) => HX7_innerLine_0 fM_tape iM_size p0 x_6189 f_6191 x_6192 n_6206 z_6193 z_6194 z_6195 z_6196 z_6197 z_6198 z_6199 z_6200 z_6201 z_6202 f_6203 f_6204 f_6205) n_6233 z_6229 z_6230 z_6231 z_6232) → va_P (dC, dI) vwCl [(oc7 oM iM_thrown rM_tape iM_taped iM_size z_6195 z_6196 z_6197 z_6198 z_6199 z_6231 z_6232 iM_trouble rM_letters z_6230 iM_hasCourt rM_r rM_fresh rM_told rM_read rM_st rM_undone rM_kept iM_undos iM_images rM_fresher x_6189 iM_scale iM_night rM_heardRow rM_cutRow iM_breaths iM_cutMany iM_allBreaths rM_trial rM_words iM_fewestBreaths iM_orderMany iM_orderSum iM_leastOrder rM_often iM_setMany iM_someOf iM_allOf iM_allWeight iM_enoughWeight iM_worthSum iM_firstRest iM_leastDrawn), (arI rM_tape kM_tape 900 fM_tape), (arI rM_letters kM_letters 8 f_6203), (arI rM_fresh kM_fresh 287 f_6204), (arI rM_read kM_read 90 f_6205), (arI rM_fresher kM_fresher 8 f_6191)] H → va_D A [(oc7 oM iM_thrown rM_tape iM_taped iM_size z_6195 z_6196 z_6197 z_6198 z_6199 z_6231 z_6232 iM_trouble rM_letters z_6230 iM_hasCourt rM_r rM_fresh rM_told rM_read rM_st rM_undone rM_kept iM_undos iM_images rM_fresher x_6189 iM_scale iM_night rM_heardRow rM_cutRow iM_breaths iM_cutMany iM_allBreaths rM_trial rM_words iM_fewestBreaths iM_orderMany iM_orderSum iM_leastOrder rM_often iM_setMany iM_someOf iM_allOf iM_allWeight iM_enoughWeight iM_worthSum iM_firstRest iM_leastDrawn), (arI rM_tape kM_tape 900 fM_tape), (arI rM_letters kM_letters 8 f_6203), (arI rM_fresh kM_fresh 287 f_6204), (arI rM_read kM_read 90 f_6205), (arI rM_fresher kM_fresher 8 f_6191)] → va_S A s.heap H locs → lv_has ls 7 [(6, .int z_6229), (5, .int x_6228), (4, .int z_6194), (3, .int z_6193), (2, .int x_6192), (0, .ref oM), (1, .int p0)] → W p l e (headSpec (Cond.code yX7_innerLine cX7_innerLine 7 none :: wG) ({ frames := 7, cells := 0, slots := 0, locals := 175 })).room s m ([.ref oM, .int p0] : List Value).toArray below meth c H locs 0 0 (MQ below (va_Qv (fun (_ : Nat) => True) (fun (_ : Nat) (t : State) => ∃ (niM_at : Int32) (niM_end : Int32) (niM_token : Int32) (niM_whole : Int32) (niM_nameSize : Int32) (niM_fault : Int32) (niM_place : Int32) (niM_failed : Int32) (niM_fresherSize : Int32) (nfM_letters : Nat → Int32) (nfM_fresh : Nat → Int32) (nfM_read : Nat → Int32) (nfM_fresher : Nat → Int32), (0 ≤ niM_end.toInt ∧ niM_end.toInt ≤ 900) ∧ (0 ≤ niM_nameSize.toInt ∧ niM_nameSize.toInt ≤ 900) ∧ (0 ≤ niM_failed.toInt ∧ niM_failed.toInt ≤ 1) ∧ (iM_end.toInt ≤ niM_end.toInt) ∧ (ImpP (niM_token.toInt = 2) (niM_nameSize.toInt ≤ 8)) ∧ (iM_failed.toInt ≤ niM_failed.toInt) ∧ (ImpP (niM_failed.toInt ≤ 0 ∧ niM_token.toInt = 59 ) (iM_end.toInt + 1 ≤ niM_end.toInt)) ∧ (POk nfM_fresh nfM_read) ∧ (PX7_innerLine fM_tape iM_size iM_at iM_end iM_token iM_whole iM_nameSize iM_fault iM_place fM_letters iM_failed fM_fresh fM_read fM_fresher iM_fresherSize p0 = (niM_at, niM_end, niM_token, niM_whole, niM_nameSize, niM_fault, niM_place, niM_failed, niM_fresherSize, nfM_letters, nfM_fresh, nfM_read, nfM_fresher)) ∧ Bw dC dI A [(oc7 oM iM_thrown rM_tape iM_taped iM_size niM_at niM_end niM_token niM_whole niM_nameSize niM_fault niM_place iM_trouble rM_letters niM_failed iM_hasCourt rM_r rM_fresh rM_told rM_read rM_st rM_undone rM_kept iM_undos iM_images rM_fresher niM_fresherSize iM_scale iM_night rM_heardRow rM_cutRow iM_breaths iM_cutMany iM_allBreaths rM_trial rM_words iM_fewestBreaths iM_orderMany iM_orderSum iM_leastOrder rM_often iM_setMany iM_someOf iM_allOf iM_allWeight iM_enoughWeight iM_worthSum iM_firstRest iM_leastDrawn), (arI rM_tape kM_tape 900 fM_tape), (arI rM_letters kM_letters 8 nfM_letters), (arI rM_fresh kM_fresh 287 nfM_fresh), (arI rM_read kM_read 90 nfM_read), (arI rM_fresher kM_fresher 8 nfM_fresher)] [(kM_tape, .int), (kM_letters, .int), (kM_fresh, .int), (kM_read, .int), (kM_fresher, .int)] t) A) ([.ref oM, .int p0] : List Value).toArray s 0 0 A) (F0 m 45 ls []) := by
              intro n_6233
              induction n_6233 with
              | zero => intro z_6229 z_6230 z_6231 z_6232 H locs ls b_z_6230 hi0_n_6233 hi1_n_6233 hi2_n_6233 hm; exact absurd hm (Nat.not_lt_zero _)
              | succ n_6233 ih_n_6233 =>
                intro z_6229 z_6230 z_6231 z_6232 H locs ls b_z_6230 hi0_n_6233 hi1_n_6233 hi2_n_6233 hm_n_6233 hG hP hD hS hl
                have hG := hG.trans (HX7_innerLine_1_eq _ _ _ _ _ _ _ _ _ _ _ _ _ _ _ _ _ _ _ _ _ _)
                refine lv_iload hx hb dX7_innerLine_45 (lv_at hl 0 rfl) ?_
                refine lv_iload_n hx hb dX7_innerLine_47 rfl (lv_at hl 3 rfl) ?_
                refine lv_icmp_ge (tgt := 89) hx hb dX7_innerLine_48 (by decide) (fun c_6234 => ?_) (fun c_6234 => ?_)
                · skip
                  have hG := hG.trans (if_pos c_6234)
                  have gc_6234 := ti_le c_6234 rfl rfl
                  refine lv_aload_n hx hb dX7_innerLine_89 rfl (lv_at hl 5 rfl) ?_
                  refine va_get (D := (dC, dI)) (ci := 7) (v := .int z_6230) (C := RX7) (T := TX7) (N := 48) hx hb hts inX7 hown hK hP 0 rfl rfl 13 (by decide) (hts _ wd_380) (fun _ h9 => h9) rfl dX7_innerLine_90 ?_
                  refine lv_if_ne (tgt := 110) hx hb dX7_innerLine_93 (by decide) (fun c_6235 => ?_) (fun c_6235 => ?_)
                  · skip
                    have hG := hG.trans (if_neg c_6235)
                    have gc_6235 := ti_ne c_6235 rfl kc_0
                    replace gc_6235 : (-1) * z_6230.toInt + 1 ≤ 0 := om_e3003f79 gc_6235 b_z_6230.1
                    refine lv_aload_n hx hb dX7_innerLine_110 rfl (lv_at hl 5 rfl) ?_
                    have hMs := ml_of hD [true, true, true, false, false, false] (wc := [(oc7 oM iM_thrown rM_tape iM_taped iM_size z_6195 z_6196 z_6197 z_6198 z_6199 z_6231 z_6232 iM_trouble rM_letters z_6230 iM_hasCourt rM_r rM_fresh rM_told rM_read rM_st rM_undone rM_kept iM_undos iM_images rM_fresher x_6189 iM_scale iM_night rM_heardRow rM_cutRow iM_breaths iM_cutMany iM_allBreaths rM_trial rM_words iM_fewestBreaths iM_orderMany iM_orderSum iM_leastOrder rM_often iM_setMany iM_someOf iM_allOf iM_allWeight iM_enoughWeight iM_worthSum iM_firstRest iM_leastDrawn), (arI rM_tape kM_tape 900 fM_tape), (arI rM_letters kM_letters 8 f_6203)]) rfl
                    have hFc := va_freeM hD hS hA _ hMs
                    refine va_callv (va_runV (As := []) (rest := []) ⟨hx, hb, hml, hown, hts⟩ (tX7_pass l dC dI _ oM iM_thrown rM_tape fM_tape kM_tape iM_taped iM_size z_6195 z_6196 z_6197 z_6198 z_6199 z_6231 z_6232 iM_trouble rM_letters f_6203 kM_letters z_6230 iM_hasCourt rM_r rM_fresh rM_told rM_read rM_st rM_undone rM_kept iM_undos iM_images rM_fresher x_6189 iM_scale iM_night rM_heardRow rM_cutRow iM_breaths iM_cutMany iM_allBreaths rM_trial rM_words iM_fewestBreaths iM_orderMany iM_orderSum iM_leastOrder rM_often iM_setMany iM_someOf iM_allOf iM_allWeight iM_enoughWeight iM_worthSum iM_firstRest iM_leastDrawn b_iM_taped b_iM_size b_z_6196 b_z_6199 b_z_6230 b_iM_hasCourt b_iM_undos b_iM_images b_iM_scale b_iM_breaths b_iM_cutMany hi6_n_6206) (cwV 0 hts (wd_V wd_454 wd_455 wd_456 wd_5 (wd_c wd_457)) rfl rfl rfl dv_yX7_pass_0 ⟨Nat.le_of_ble_eq_true rfl, Nat.le_of_ble_eq_true rfl⟩) ⟨Pw.fb, recvX7 hK hP (q0 := 0) rfl, fun U hU hW => Pw.to (hP.ms _ hMs) (hD.ms _ hMs) (hK.ms [true, true, false, false, false] rfl) hE hS hFc hU hW⟩ rfl rfl hl.1 rfl (lv_room (Nat.le_of_ble_eq_true rfl)) dX7_innerLine_111 ⟨Nat.le_of_ble_eq_true rfl, Nat.le_of_ble_eq_true rfl⟩) hS (fun q _ h => hFc q h) hFc (fun u t H locs ht hvm hw hB hz1 hk1 hS => ?_)
                    refine ex_6_6 hB (fun x_6236 x_6237 x_6238 x_6239 x_6240 f_6241 b_x_6237 b_x_6240 e_x_6236_0 e_x_6236_1 e_x_6236_2 e_x_6236_3 hB => ?_)
                    obtain ⟨hP, hD⟩ := Bw.goN (ws' := [(oc7 oM iM_thrown rM_tape iM_taped iM_size x_6236 x_6237 x_6238 x_6239 x_6240 z_6231 z_6232 iM_trouble rM_letters z_6230 iM_hasCourt rM_r rM_fresh rM_told rM_read rM_st rM_undone rM_kept iM_undos iM_images rM_fresher x_6189 iM_scale iM_night rM_heardRow rM_cutRow iM_breaths iM_cutMany iM_allBreaths rM_trial rM_words iM_fewestBreaths iM_orderMany iM_orderSum iM_leastOrder rM_often iM_setMany iM_someOf iM_allOf iM_allWeight iM_enoughWeight iM_worthSum iM_firstRest iM_leastDrawn), (arI rM_tape kM_tape 900 fM_tape), (arI rM_letters kM_letters 8 f_6241), (arI rM_fresh kM_fresh 287 f_6204), (arI rM_read kM_read 90 f_6205), (arI rM_fresher kM_fresher 8 f_6191)]) hB rfl ht hP hD _ hMs hk1 hFc rfl
                    clear hz1 hk1 hvm ht hB hMs
                    have hG := hG.trans (un6_eq e_x_6236_3)
                    clear hi6_n_6206
                    clear hi8_n_6206
                    refine lv_iload_n hx hb dX7_innerLine_114 rfl (lv_at hl 6 rfl) ?_
                    refine lv_iconst (v := 3) hx hb dX7_innerLine_115 (by decide) ?_
                    refine lv_icmp_ne (tgt := 129) hx hb dX7_innerLine_116 (by decide) (fun c_6242 => ?_) (fun c_6242 => ?_)
                    · skip
                      have hG := hG.trans (if_neg c_6242)
                      have gc_6242 := ti_ne c_6242 rfl kc_3
                      replace gc_6242 : p0.toInt + (-2) ≤ 0 := om_b7ea5ffe gc_6242 hp0.2
                      clear hic
                      refine lv_iconst (v := 0) hx hb dX7_innerLine_129 (by decide) ?_
                      refine lv_istore (lv' := [(6, .int 0), (5, .int x_6228), (4, .int z_6194), (3, .int z_6193), (2, .int x_6192), (0, .ref oM), (1, .int p0)]) hx hb dX7_innerLine_130 hl (by decide) rfl (fun ls hl => ?_)
                      refine lv_aload_n hx hb dX7_innerLine_132 rfl (lv_at hl 5 rfl) ?_
                      refine va_get (D := (dC, dI)) (ci := 7) (v := .int z_6230) (C := RX7) (T := TX7) (N := 48) hx hb hts inX7 hown hK hP 0 rfl rfl 13 (by decide) (hts _ wd_380) (fun _ h9 => h9) rfl dX7_innerLine_133 ?_
                      refine lv_if_eq (tgt := 140) hx hb dX7_innerLine_136 (by decide) (fun c_6243 => ?_) (fun c_6243 => ?_)
                      · skip
                        have hG := hG.trans (if_pos c_6243)
                        have gc_6243 := ti_eq c_6243 rfl kc_0
                        exact ((om_77e4ddb5 gc_6235 gc_6243)).elim
                      · skip
                        have hG := hG.trans (if_neg c_6243)
                        have gc_6243 := ti_ne c_6243 rfl kc_0
                        replace gc_6243 : (-1) * z_6230.toInt + 1 ≤ 0 := om_e3003f79 gc_6243 b_z_6230.1
                        exact wq_v hx hb hr 0 trivial (fun t ht hW => ⟨x_6236, x_6237, x_6238, x_6239, x_6240, z_6231, z_6232, z_6230, x_6189, f_6241, f_6204, f_6205, f_6191, b_x_6237, b_x_6240, b_z_6230, (om_9348f5ae hi7_n_6206 e_x_6236_0), e_x_6236_1, (om_1fc3dec6 gc_6179 b_z_6230.1), (fun h9 => False.elim (om_a5fe015d gc_6235 h9.1)), hi2_n_6206, hG, Bw.to hP hD hK ht hW⟩) hS dX7_innerLine_139 hlocks
                    · skip
                      have hG := hG.trans (if_pos c_6242)
                      have gc_6242 := ti_eq c_6242 rfl kc_3
                      have h_6244 : (fM_fresh 8).toInt ≤ 1 := hic ⟨(om_02e9bb08 gc_6179), (om_ce492ef9 hp0.2 gc_6242)⟩
                      clear hic
                      refine lv_aload_n hx hb dX7_innerLine_119 rfl (lv_at hl 5 rfl) ?_
                      refine lv_iconst (v := 1) hx hb dX7_innerLine_120 (by decide) ?_
                      refine lv_bipush (v := 9) hx hb dX7_innerLine_121 (by decide) ?_
                      have hMs := ml_of hD [true, true, true, false, false, false] (wc := [(oc7 oM iM_thrown rM_tape iM_taped iM_size x_6236 x_6237 x_6238 x_6239 x_6240 z_6231 z_6232 iM_trouble rM_letters z_6230 iM_hasCourt rM_r rM_fresh rM_told rM_read rM_st rM_undone rM_kept iM_undos iM_images rM_fresher x_6189 iM_scale iM_night rM_heardRow rM_cutRow iM_breaths iM_cutMany iM_allBreaths rM_trial rM_words iM_fewestBreaths iM_orderMany iM_orderSum iM_leastOrder rM_often iM_setMany iM_someOf iM_allOf iM_allWeight iM_enoughWeight iM_worthSum iM_firstRest iM_leastDrawn), (arI rM_tape kM_tape 900 fM_tape), (arI rM_letters kM_letters 8 f_6241)]) rfl
                      have hFc := va_freeM hD hS hA _ hMs
                      refine va_calli (va_runV (As := [.int 1, .int 9]) (rest := []) ⟨hx, hb, hml, hown, hts⟩ (tX7_number l dC dI _ oM iM_thrown rM_tape fM_tape kM_tape iM_taped iM_size x_6236 x_6237 x_6238 x_6239 x_6240 z_6231 z_6232 iM_trouble rM_letters f_6241 kM_letters z_6230 iM_hasCourt rM_r rM_fresh rM_told rM_read rM_st rM_undone rM_kept iM_undos iM_images rM_fresher x_6189 iM_scale iM_night rM_heardRow rM_cutRow iM_breaths iM_cutMany iM_allBreaths rM_trial rM_words iM_fewestBreaths iM_orderMany iM_orderSum iM_leastOrder rM_often iM_setMany iM_someOf iM_allOf iM_allWeight iM_enoughWeight iM_worthSum iM_firstRest iM_leastDrawn 1 9 b_iM_taped b_iM_size b_x_6237 b_x_6240 b_z_6230 b_iM_hasCourt b_iM_undos b_iM_images b_iM_scale b_iM_breaths b_iM_cutMany e_x_6236_1 (om_dc317686 kc_1 kc_9)) (cwV 2 hts (wd_V wd_446 wd_447 wd_448 wd_5 (wd_c wd_449)) rfl rfl rfl dv_yX7_number_2 ⟨Nat.le_of_ble_eq_true rfl, Nat.le_of_ble_eq_true rfl⟩) ⟨Pw.fb, recvX7 hK hP (q0 := 0) rfl, fun U hU hW => Pw.to (hP.ms _ hMs) (hD.ms _ hMs) (hK.ms [true, true, false, false, false] rfl) hE hS hFc hU hW⟩ rfl rfl hl.1 rfl (lv_room (Nat.le_of_ble_eq_true rfl)) dX7_innerLine_123 ⟨Nat.le_of_ble_eq_true rfl, Nat.le_of_ble_eq_true rfl⟩) hS (fun q _ h => hFc q h) hFc (fun r u t H locs ht hvm hw hB hz1 hk1 hS => ?_)
                      have hru9 := hw.2
                      have hw := hw.1
                      refine ex_9_8 hB (fun x_6245 x_6246 x_6247 x_6248 x_6249 x_6250 x_6251 x_6252 f_6253 b_x_6246 b_x_6249 b_x_6252 e_x_6245_0 e_x_6245_1 e_x_6245_2 e_x_6245_3 e_x_6245_4 hB => ?_)
                      obtain ⟨hP, hD⟩ := Bw.goN (ws' := [(oc7 oM iM_thrown rM_tape iM_taped iM_size x_6245 x_6246 x_6247 x_6248 x_6249 x_6250 x_6251 iM_trouble rM_letters x_6252 iM_hasCourt rM_r rM_fresh rM_told rM_read rM_st rM_undone rM_kept iM_undos iM_images rM_fresher x_6189 iM_scale iM_night rM_heardRow rM_cutRow iM_breaths iM_cutMany iM_allBreaths rM_trial rM_words iM_fewestBreaths iM_orderMany iM_orderSum iM_leastOrder rM_often iM_setMany iM_someOf iM_allOf iM_allWeight iM_enoughWeight iM_worthSum iM_firstRest iM_leastDrawn), (arI rM_tape kM_tape 900 fM_tape), (arI rM_letters kM_letters 8 f_6253), (arI rM_fresh kM_fresh 287 f_6204), (arI rM_read kM_read 90 f_6205), (arI rM_fresher kM_fresher 8 f_6191)]) hB rfl ht hP hD _ hMs hk1 hFc rfl
                      clear hz1 hk1 hvm ht hB hMs
                      rw [← hru9] at e_x_6245_4
                      obtain ⟨x_6254, rfl⟩ : ∃ z, z = r := ⟨_, rfl⟩
                      have hG := hG.trans (un10_eq e_x_6245_4)
                      have lx_6254 := hw.2
                      have kl_1 := kc_1
                      have kl_9 := kc_9
                      clear e_x_6236_1
                      clear e_x_6236_2
                      refine lv_goto (tgt := 130) hx hb dX7_innerLine_126 (by decide) ?_
                      refine lv_istore (lv' := [(6, .int x_6254), (5, .int x_6228), (4, .int z_6194), (3, .int z_6193), (2, .int x_6192), (0, .ref oM), (1, .int p0)]) hx hb dX7_innerLine_130 hl (by decide) rfl (fun ls hl => ?_)
                      refine lv_aload_n hx hb dX7_innerLine_132 rfl (lv_at hl 5 rfl) ?_
                      refine va_get (D := (dC, dI)) (ci := 7) (v := .int x_6252) (C := RX7) (T := TX7) (N := 48) hx hb hts inX7 hown hK hP 0 rfl rfl 13 (by decide) (hts _ wd_380) (fun _ h9 => h9) rfl dX7_innerLine_133 ?_
                      refine lv_if_eq (tgt := 140) hx hb dX7_innerLine_136 (by decide) (fun c_6255 => ?_) (fun c_6255 => ?_)
                      · skip
                        have hG := hG.trans (if_pos c_6255)
                        have gc_6255 := ti_eq c_6255 rfl kc_0
                        exact ((om_30d40e72 gc_6235 e_x_6245_2 gc_6255)).elim
                      · skip
                        have hG := hG.trans (if_neg c_6255)
                        have gc_6255 := ti_ne c_6255 rfl kc_0
                        replace gc_6255 : (-1) * x_6252.toInt + 1 ≤ 0 := om_e3003f79 gc_6255 b_x_6252.1
                        exact wq_v hx hb hr 0 trivial (fun t ht hW => ⟨x_6245, x_6246, x_6247, x_6248, x_6249, x_6250, x_6251, x_6252, x_6189, f_6253, f_6204, f_6205, f_6191, b_x_6246, b_x_6249, b_x_6252, (om_622f2a87 hi7_n_6206 e_x_6236_0 e_x_6245_0), e_x_6245_1, (om_1fc3dec6 gc_6179 b_x_6252.1), (fun h9 => False.elim (om_a5fe015d gc_6255 h9.1)), hi2_n_6206, hG, Bw.to hP hD hK ht hW⟩) hS dX7_innerLine_139 hlocks
                  · skip
                    have hG := hG.trans (if_pos c_6235)
                    have gc_6235 := ti_eq c_6235 rfl kc_0
                    have h_6256 : 1 ≤ (f_6204 1).toInt := e_x_6225_1 (om_6c480895 hi1_n_6233 gc_6235)
                    clear e_x_6225_1
                    have h_6257 : x_6228.toInt < (f_6204 1).toInt := lx_6228.2.1 h_6256
                    refine lv_iload_n hx hb dX7_innerLine_96 rfl (lv_at hl 3 rfl) ?_
                    refine lv_iconst (v := 4) hx hb dX7_innerLine_97 (by decide) ?_
                    refine lv_icmp_ne (tgt := 110) hx hb dX7_innerLine_98 (by decide) (fun c_6258 => ?_) (fun c_6258 => ?_)
                    · skip
                      have hG := hG.trans (if_neg c_6258)
                      have gc_6258 := ti_ne c_6258 rfl kc_4
                      replace gc_6258 : z_6193.toInt + (-3) ≤ 0 := om_96839482 gc_6258 hi0_n_6206.2
                      refine lv_aload_n hx hb dX7_innerLine_110 rfl (lv_at hl 5 rfl) ?_
                      have hMs := ml_of hD [true, true, true, false, false, false] (wc := [(oc7 oM iM_thrown rM_tape iM_taped iM_size z_6195 z_6196 z_6197 z_6198 z_6199 z_6231 z_6232 iM_trouble rM_letters z_6230 iM_hasCourt rM_r rM_fresh rM_told rM_read rM_st rM_undone rM_kept iM_undos iM_images rM_fresher x_6189 iM_scale iM_night rM_heardRow rM_cutRow iM_breaths iM_cutMany iM_allBreaths rM_trial rM_words iM_fewestBreaths iM_orderMany iM_orderSum iM_leastOrder rM_often iM_setMany iM_someOf iM_allOf iM_allWeight iM_enoughWeight iM_worthSum iM_firstRest iM_leastDrawn), (arI rM_tape kM_tape 900 fM_tape), (arI rM_letters kM_letters 8 f_6203)]) rfl
                      have hFc := va_freeM hD hS hA _ hMs
                      refine va_callv (va_runV (As := []) (rest := []) ⟨hx, hb, hml, hown, hts⟩ (tX7_pass l dC dI _ oM iM_thrown rM_tape fM_tape kM_tape iM_taped iM_size z_6195 z_6196 z_6197 z_6198 z_6199 z_6231 z_6232 iM_trouble rM_letters f_6203 kM_letters z_6230 iM_hasCourt rM_r rM_fresh rM_told rM_read rM_st rM_undone rM_kept iM_undos iM_images rM_fresher x_6189 iM_scale iM_night rM_heardRow rM_cutRow iM_breaths iM_cutMany iM_allBreaths rM_trial rM_words iM_fewestBreaths iM_orderMany iM_orderSum iM_leastOrder rM_often iM_setMany iM_someOf iM_allOf iM_allWeight iM_enoughWeight iM_worthSum iM_firstRest iM_leastDrawn b_iM_taped b_iM_size b_z_6196 b_z_6199 b_z_6230 b_iM_hasCourt b_iM_undos b_iM_images b_iM_scale b_iM_breaths b_iM_cutMany hi6_n_6206) (cwV 0 hts (wd_V wd_454 wd_455 wd_456 wd_5 (wd_c wd_457)) rfl rfl rfl dv_yX7_pass_0 ⟨Nat.le_of_ble_eq_true rfl, Nat.le_of_ble_eq_true rfl⟩) ⟨Pw.fb, recvX7 hK hP (q0 := 0) rfl, fun U hU hW => Pw.to (hP.ms _ hMs) (hD.ms _ hMs) (hK.ms [true, true, false, false, false] rfl) hE hS hFc hU hW⟩ rfl rfl hl.1 rfl (lv_room (Nat.le_of_ble_eq_true rfl)) dX7_innerLine_111 ⟨Nat.le_of_ble_eq_true rfl, Nat.le_of_ble_eq_true rfl⟩) hS (fun q _ h => hFc q h) hFc (fun u t H locs ht hvm hw hB hz1 hk1 hS => ?_)
                      refine ex_6_6 hB (fun x_6259 x_6260 x_6261 x_6262 x_6263 f_6264 b_x_6260 b_x_6263 e_x_6259_0 e_x_6259_1 e_x_6259_2 e_x_6259_3 hB => ?_)
                      obtain ⟨hP, hD⟩ := Bw.goN (ws' := [(oc7 oM iM_thrown rM_tape iM_taped iM_size x_6259 x_6260 x_6261 x_6262 x_6263 z_6231 z_6232 iM_trouble rM_letters z_6230 iM_hasCourt rM_r rM_fresh rM_told rM_read rM_st rM_undone rM_kept iM_undos iM_images rM_fresher x_6189 iM_scale iM_night rM_heardRow rM_cutRow iM_breaths iM_cutMany iM_allBreaths rM_trial rM_words iM_fewestBreaths iM_orderMany iM_orderSum iM_leastOrder rM_often iM_setMany iM_someOf iM_allOf iM_allWeight iM_enoughWeight iM_worthSum iM_firstRest iM_leastDrawn), (arI rM_tape kM_tape 900 fM_tape), (arI rM_letters kM_letters 8 f_6264), (arI rM_fresh kM_fresh 287 f_6204), (arI rM_read kM_read 90 f_6205), (arI rM_fresher kM_fresher 8 f_6191)]) hB rfl ht hP hD _ hMs hk1 hFc rfl
                      clear hz1 hk1 hvm ht hB hMs
                      have hG := hG.trans (un6_eq e_x_6259_3)
                      clear hi6_n_6206
                      clear hi8_n_6206
                      refine lv_iload_n hx hb dX7_innerLine_114 rfl (lv_at hl 6 rfl) ?_
                      refine lv_iconst (v := 3) hx hb dX7_innerLine_115 (by decide) ?_
                      refine lv_icmp_ne (tgt := 129) hx hb dX7_innerLine_116 (by decide) (fun c_6265 => ?_) (fun c_6265 => ?_)
                      · skip
                        have hG := hG.trans (if_neg c_6265)
                        have gc_6265 := ti_ne c_6265 rfl kc_3
                        replace gc_6265 : p0.toInt + (-2) ≤ 0 := om_b7ea5ffe gc_6265 hp0.2
                        clear hic
                        refine lv_iconst (v := 0) hx hb dX7_innerLine_129 (by decide) ?_
                        refine lv_istore (lv' := [(6, .int 0), (5, .int x_6228), (4, .int z_6194), (3, .int z_6193), (2, .int x_6192), (0, .ref oM), (1, .int p0)]) hx hb dX7_innerLine_130 hl (by decide) rfl (fun ls hl => ?_)
                        refine lv_aload_n hx hb dX7_innerLine_132 rfl (lv_at hl 5 rfl) ?_
                        refine va_get (D := (dC, dI)) (ci := 7) (v := .int z_6230) (C := RX7) (T := TX7) (N := 48) hx hb hts inX7 hown hK hP 0 rfl rfl 13 (by decide) (hts _ wd_380) (fun _ h9 => h9) rfl dX7_innerLine_133 ?_
                        refine lv_if_eq (tgt := 140) hx hb dX7_innerLine_136 (by decide) (fun c_6266 => ?_) (fun c_6266 => ?_)
                        · skip
                          have hG := hG.trans (if_pos c_6266)
                          have gc_6266 := ti_eq c_6266 rfl kc_0
                          refine lv_aload_n hx hb dX7_innerLine_140 rfl (lv_at hl 5 rfl) ?_
                          refine va_get (D := (dC, dI)) (ci := 7) (v := .ref rM_read) (C := RX7) (T := TX7) (N := 48) hx hb hts inX7 hown hK hP 0 rfl rfl 18 (by decide) (hts _ wd_158) (fun _ h9 => h9) rfl dX7_innerLine_141 ?_
                          refine lv_iconst (v := 4) hx hb dX7_innerLine_144 (by decide) ?_
                          refine lv_iload_n hx hb dX7_innerLine_145 rfl (lv_at hl 4 rfl) ?_
                          refine lv_imul hx hb dX7_innerLine_146 ?_
                          refine lv_topi (fun x_6267 ex_6267 => ?_)
                          have hG := hG.trans (lt_eq ex_6267)
                          have vx_6267 : x_6267.toInt = 4 * x_6192.toInt := ti_mul ex_6267 kc_4 rfl (om_9e6bb6a4 pl_fM_fresh.2.2.2.2.1.1 pl_fM_fresh.2.2.2.2.1.2 cx_6192) (om_7d3cae7d pl_fM_fresh.2.1 pl_fM_fresh.2.2.1.2 pl_fM_fresh.2.2.2.2.2.1.2 cx_6192)
                          refine lv_iload_n hx hb dX7_innerLine_147 rfl (lv_at hl 3 rfl) ?_
                          refine lv_iadd hx hb dX7_innerLine_148 ?_
                          refine lv_topi (fun x_6268 ex_6268 => ?_)
                          have hG := hG.trans (lt_eq ex_6268)
                          have vx_6268 : x_6268.toInt = 4 * x_6192.toInt + z_6193.toInt := om_5d0caf0f (ti_add ex_6268 vx_6267 rfl (om_80a5d224 pl_fM_fresh.2.2.2.2.1.1 pl_fM_fresh.2.2.2.2.1.2 cx_6192 hi0_n_6206.1) (om_65488096 pl_fM_fresh.2.1 pl_fM_fresh.2.2.1.2 pl_fM_fresh.2.2.2.2.2.1.2 cx_6192 hi0_n_6206.2))
                          refine lv_iload hx hb dX7_innerLine_149 (lv_at hl 1 rfl) ?_
                          refine va_iast hx hb hK hP hD hS 4 3 rfl rfl (ti_in vx_6268 (om_dcc527d7 pl_fM_fresh.2.2.2.2.1.1 pl_fM_fresh.2.2.2.2.1.2 cx_6192 hi0_n_6206.1) (om_1343fdf1 pl_fM_fresh.2.1 pl_fM_fresh.2.2.1.2 pl_fM_fresh.2.2.2.2.2.1.2 cx_6192 hi0_n_6206.2)) dX7_innerLine_151 (fun H locs hP hD hS => ?_)
                          obtain ⟨f_6269, ef_6269⟩ : ∃ g : Nat → Int32, g = upd f_6205 x_6268.toNatClampNeg x_6228 := ⟨_, rfl⟩
                          rw [← ef_6269] at hP hD
                          have hG := hG.trans (lt_eq ef_6269)
                          obtain ⟨hP, hD⟩ := wl2 (ws' := [(oc7 oM iM_thrown rM_tape iM_taped iM_size x_6259 x_6260 x_6261 x_6262 x_6263 z_6231 z_6232 iM_trouble rM_letters z_6230 iM_hasCourt rM_r rM_fresh rM_told rM_read rM_st rM_undone rM_kept iM_undos iM_images rM_fresher x_6189 iM_scale iM_night rM_heardRow rM_cutRow iM_breaths iM_cutMany iM_allBreaths rM_trial rM_words iM_fewestBreaths iM_orderMany iM_orderSum iM_leastOrder rM_often iM_setMany iM_someOf iM_allOf iM_allWeight iM_enoughWeight iM_worthSum iM_firstRest iM_leastDrawn), (arI rM_tape kM_tape 900 fM_tape), (arI rM_letters kM_letters 8 f_6264), (arI rM_fresh kM_fresh 287 f_6204), (arI rM_read kM_read 90 f_6269), (arI rM_fresher kM_fresher 8 f_6191)]) hP hD rfl
                          have q_n1 := ti_cl (x := f_6204 1) rfl (by omega)
                          have pk_f_6269 : POk f_6204 f_6269 := POk.prt hi2_n_6206 ef_6269 (by have q9 := ti_cl (x := x_6268) vx_6268 (om_dcc527d7 pl_fM_fresh.2.2.2.2.1.1 pl_fM_fresh.2.2.2.2.1.2 cx_6192 hi0_n_6206.1); omega) (by have q9 := ti_cl (x := x_6268) vx_6268 (om_dcc527d7 pl_fM_fresh.2.2.2.2.1.1 pl_fM_fresh.2.2.2.2.1.2 cx_6192 hi0_n_6206.1); omega)
                          refine lv_aload_n hx hb dX7_innerLine_152 rfl (lv_at hl 5 rfl) ?_
                          refine va_get (D := (dC, dI)) (ci := 7) (v := .ref rM_fresh) (C := RX7) (T := TX7) (N := 48) hx hb hts inX7 hown hK hP 0 rfl rfl 16 (by decide) (hts _ wd_156) (fun _ h9 => h9) rfl dX7_innerLine_153 ?_
                          refine lv_bipush (v := 45) hx hb dX7_innerLine_156 (by decide) ?_
                          refine lv_iconst (v := 4) hx hb dX7_innerLine_158 (by decide) ?_
                          refine lv_iload_n hx hb dX7_innerLine_159 rfl (lv_at hl 4 rfl) ?_
                          refine lv_imul hx hb dX7_innerLine_160 ?_
                          refine lv_topi (fun x_6270 ex_6270 => ?_)
                          have hG := hG.trans (lt_eq ex_6270)
                          have vx_6270 : x_6270.toInt = 4 * x_6192.toInt := ti_mul ex_6270 kc_4 rfl (om_9e6bb6a4 pl_fM_fresh.2.2.2.2.1.1 pl_fM_fresh.2.2.2.2.1.2 cx_6192) (om_7d3cae7d pl_fM_fresh.2.1 pl_fM_fresh.2.2.1.2 pl_fM_fresh.2.2.2.2.2.1.2 cx_6192)
                          refine lv_iadd hx hb dX7_innerLine_161 ?_
                          refine lv_topi (fun x_6271 ex_6271 => ?_)
                          have hG := hG.trans (lt_eq ex_6271)
                          have vx_6271 : x_6271.toInt = 4 * x_6192.toInt + 45 := om_702bf7ac (ti_add ex_6271 kc_45 vx_6270 (om_0c5ad906 pl_fM_fresh.2.2.2.2.1.1 pl_fM_fresh.2.2.2.2.1.2 cx_6192) (om_5da1924c pl_fM_fresh.2.1 pl_fM_fresh.2.2.1.2 pl_fM_fresh.2.2.2.2.2.1.2 cx_6192))
                          refine lv_iload_n hx hb dX7_innerLine_162 rfl (lv_at hl 3 rfl) ?_
                          refine lv_iadd hx hb dX7_innerLine_163 ?_
                          refine lv_topi (fun x_6272 ex_6272 => ?_)
                          have hG := hG.trans (lt_eq ex_6272)
                          have vx_6272 : x_6272.toInt = 4 * x_6192.toInt + z_6193.toInt + 45 := om_0ab12ad6 (ti_add ex_6272 vx_6271 rfl (om_563b8554 pl_fM_fresh.2.2.2.2.1.1 pl_fM_fresh.2.2.2.2.1.2 cx_6192 hi0_n_6206.1) (om_87f6ba8c pl_fM_fresh.2.1 pl_fM_fresh.2.2.1.2 pl_fM_fresh.2.2.2.2.2.1.2 cx_6192 hi0_n_6206.2))
                          refine lv_iload hx hb dX7_innerLine_164 (lv_at hl 0 rfl) ?_
                          refine va_iast hx hb hK hP hD hS 3 2 rfl rfl (ti_in vx_6272 (om_d2c9edc5 pl_fM_fresh.2.2.2.2.1.1 pl_fM_fresh.2.2.2.2.1.2 cx_6192 hi0_n_6206.1) (om_21e450b4 pl_fM_fresh.2.1 pl_fM_fresh.2.2.1.2 pl_fM_fresh.2.2.2.2.2.1.2 cx_6192 hi0_n_6206.2)) dX7_innerLine_166 (fun H locs hP hD hS => ?_)
                          obtain ⟨f_6273, ef_6273⟩ : ∃ g : Nat → Int32, g = upd f_6204 x_6272.toNatClampNeg (0 : Int32) := ⟨_, rfl⟩
                          rw [← ef_6273] at hP hD
                          have hG := hG.trans (lt_eq ef_6273)
                          obtain ⟨hP, hD⟩ := wl2 (ws' := [(oc7 oM iM_thrown rM_tape iM_taped iM_size x_6259 x_6260 x_6261 x_6262 x_6263 z_6231 z_6232 iM_trouble rM_letters z_6230 iM_hasCourt rM_r rM_fresh rM_told rM_read rM_st rM_undone rM_kept iM_undos iM_images rM_fresher x_6189 iM_scale iM_night rM_heardRow rM_cutRow iM_breaths iM_cutMany iM_allBreaths rM_trial rM_words iM_fewestBreaths iM_orderMany iM_orderSum iM_leastOrder rM_often iM_setMany iM_someOf iM_allOf iM_allWeight iM_enoughWeight iM_worthSum iM_firstRest iM_leastDrawn), (arI rM_tape kM_tape 900 fM_tape), (arI rM_letters kM_letters 8 f_6264), (arI rM_fresh kM_fresh 287 f_6273), (arI rM_read kM_read 90 f_6269), (arI rM_fresher kM_fresher 8 f_6191)]) hP hD rfl
                          have pk_f_6273 : POk f_6273 f_6269 := POk.put pk_f_6269 ef_6273 (Or.inr (Or.inr (Or.inr (Or.inr (Or.inr (Or.inl (by have q9 := ti_cl (x := x_6272) vx_6272 (om_d2c9edc5 pl_fM_fresh.2.2.2.2.1.1 pl_fM_fresh.2.2.2.2.1.2 cx_6192 hi0_n_6206.1); have q8 := kc_0; omega)))))))
                          have pl_f_6273 := pk_f_6273.lins
                          have nn9 : (f_6204 1).toNatClampNeg = x_6192.toNatClampNeg := by have q1 := ti_cl (x := x_6192) rfl (om_1ab2c227 pl_fM_fresh.2.2.2.2.1.1 pl_fM_fresh.2.2.2.2.1.2 cx_6192); have q2 := ti_cl (x := f_6204 1) rfl (by omega); have q3 := ti_cl (x := z_6193) rfl hi0_n_6206.1; omega
                          have in9 : InOk f_6273 f_6269 (f_6273 1).toNatClampNeg (z_6193.toNatClampNeg + 1) p0.toInt := in_step hi3_n_6206 rfl ef_6269 (by have q1 := ti_cl (x := x_6192) rfl (om_1ab2c227 pl_fM_fresh.2.2.2.2.1.1 pl_fM_fresh.2.2.2.2.1.2 cx_6192); have q2 := ti_cl (x := f_6204 1) rfl (by omega); have q3 := ti_cl (x := z_6193) rfl hi0_n_6206.1; have q9 := ti_cl (x := x_6268) vx_6268 (om_dcc527d7 pl_fM_fresh.2.2.2.2.1.1 pl_fM_fresh.2.2.2.2.1.2 cx_6192 hi0_n_6206.1); omega) ef_6273 (by have q1 := ti_cl (x := x_6192) rfl (om_1ab2c227 pl_fM_fresh.2.2.2.2.1.1 pl_fM_fresh.2.2.2.2.1.2 cx_6192); have q2 := ti_cl (x := f_6204 1) rfl (by omega); have q3 := ti_cl (x := z_6193) rfl hi0_n_6206.1; have q9 := ti_cl (x := x_6272) vx_6272 (om_d2c9edc5 pl_fM_fresh.2.2.2.2.1.1 pl_fM_fresh.2.2.2.2.1.2 cx_6192 hi0_n_6206.1); omega) (by omega) (by have q1 := ti_cl (x := x_6192) rfl (om_1ab2c227 pl_fM_fresh.2.2.2.2.1.1 pl_fM_fresh.2.2.2.2.1.2 cx_6192); have q2 := ti_cl (x := f_6204 1) rfl (by omega); have q3 := ti_cl (x := z_6193) rfl hi0_n_6206.1; omega) (fun i9 h9 => by rw [nn9]; exact hi2_n_6233 (by omega) i9 (by have q1 := ti_cl (x := x_6192) rfl (om_1ab2c227 pl_fM_fresh.2.2.2.2.1.1 pl_fM_fresh.2.2.2.2.1.2 cx_6192); have q2 := ti_cl (x := f_6204 1) rfl (by omega); have q3 := ti_cl (x := z_6193) rfl hi0_n_6206.1; have q4 := ti_cl (x := z_6229) rfl hi0_n_6233.1; omega)) (fun h9 => by have q0 := kc_0; omega) rfl
                          have o1_f_6273 : (f_6273 1).toInt = (f_6204 1).toInt := put_at ef_6273 (Nat.ne_of_lt (om_9b872883 (ti_cl (x := x_6272) vx_6272 (om_d2c9edc5 pl_fM_fresh.2.2.2.2.1.1 pl_fM_fresh.2.2.2.2.1.2 cx_6192 hi0_n_6206.1)) pl_fM_fresh.2.2.2.2.1.1 pl_fM_fresh.2.2.2.2.1.2 cx_6192 hi0_n_6206.1))
                          have o7_f_6273 : (f_6273 7).toInt = (f_6204 7).toInt := put_at ef_6273 (Nat.ne_of_lt (om_58da8a1c (ti_cl (x := x_6272) vx_6272 (om_d2c9edc5 pl_fM_fresh.2.2.2.2.1.1 pl_fM_fresh.2.2.2.2.1.2 cx_6192 hi0_n_6206.1)) pl_fM_fresh.2.2.2.2.1.1 pl_fM_fresh.2.2.2.2.1.2 cx_6192 hi0_n_6206.1))
                          have o8_f_6273 : (f_6273 8).toInt = (f_6204 8).toInt := put_at ef_6273 (Nat.ne_of_lt (om_f4400bad (ti_cl (x := x_6272) vx_6272 (om_d2c9edc5 pl_fM_fresh.2.2.2.2.1.1 pl_fM_fresh.2.2.2.2.1.2 cx_6192 hi0_n_6206.1)) pl_fM_fresh.2.2.2.2.1.1 pl_fM_fresh.2.2.2.2.1.2 cx_6192 hi0_n_6206.1))
                          obtain ⟨x_6274, ex_6274⟩ : ∃ z : Int32, z = z_6193 + Int32.ofInt 1 := ⟨_, rfl⟩
                          have hG := hG.trans (lt_eq ex_6274)
                          have vx_6274 : x_6274.toInt = z_6193.toInt + 1 := ti_add (y := 1) ex_6274 rfl kc_1 (om_4e4fce7e hi0_n_6206.1) (om_bae2951a hi0_n_6206.2)
                          refine lv_iinc (v := x_6274) (lv' := [(3, .int x_6274), (6, .int 0), (5, .int x_6228), (4, .int z_6194), (2, .int x_6192), (0, .ref oM), (1, .int p0)]) hx hb dX7_innerLine_167 hl (k := 3) rfl ex_6274.symm (by decide) rfl (fun ls hl => ?_)
                          refine lv_aload_n hx hb dX7_innerLine_170 rfl (lv_at hl 5 rfl) ?_
                          refine va_get (D := (dC, dI)) (ci := 7) (v := .int x_6261) (C := RX7) (T := TX7) (N := 48) hx hb hts inX7 hown hK hP 0 rfl rfl 6 (by decide) (hts _ wd_383) (fun _ h9 => h9) rfl dX7_innerLine_171 ?_
                          refine lv_bipush (v := 44) hx hb dX7_innerLine_174 (by decide) ?_
                          refine lv_icmp_ne (tgt := 183) hx hb dX7_innerLine_176 (by decide) (fun c_6275 => ?_) (fun c_6275 => ?_)
                          · skip
                            have hG := hG.trans (if_neg c_6275)
                            have gc_6275 := ti_ne c_6275 rfl kc_44
                            clear gc_6275
                            refine lv_iconst (v := 0) hx hb dX7_innerLine_183 (by decide) ?_
                            refine lv_istore (lv' := [(4, .int 0), (3, .int x_6274), (6, .int 0), (5, .int x_6228), (2, .int x_6192), (0, .ref oM), (1, .int p0)]) hx hb dX7_innerLine_184 hl (by decide) rfl (fun ls hl => ?_)
                            refine lv_iload hx hb dX7_innerLine_186 (lv_at hl 0 rfl) ?_
                            refine lv_if_eq (tgt := 195) hx hb dX7_innerLine_188 (by decide) (fun _ => ?_) (fun c => absurd c (by decide))
                            refine lv_goto (tgt := 24) hx hb dX7_innerLine_195 (by decide) ?_
                            exact ih_n_6206 x_6274 0 x_6259 x_6260 x_6261 x_6262 x_6263 z_6231 z_6232 z_6230 f_6264 f_6273 f_6269 _ _ _ b_x_6260 b_x_6263 b_z_6230 ⟨(om_83b90de5 hi0_n_6206.1 vx_6274), (om_2c69d3de gc_6258 vx_6274)⟩ ⟨(om_b1de7dbe kc_0), (om_270f4ea0 kc_0)⟩ (by assumption) (by rw [show x_6274.toNatClampNeg = z_6193.toNatClampNeg + 1 from (by have q1 := ti_cl (x := x_6274) vx_6274 (om_9548a8fd hi0_n_6206.1); have q2 := ti_cl (x := z_6193) rfl hi0_n_6206.1; omega)]; exact in9) ⟨(om_216d7917 hi4_n_6206.1 o1_f_6273), (om_216d7917 hi4_n_6206.2.1 o7_f_6273), (om_216d7917 hi4_n_6206.2.2 o8_f_6273)⟩ (fun h9 => (om_285f573d hi0_n_6206.1 vx_6274)) e_x_6259_1 (om_9348f5ae hi7_n_6206 e_x_6259_0) (fun h9 => (om_7ed234da hi7_n_6206 (e_x_6259_2 ⟨(om_02e9bb08 gc_6235), h9.2⟩))) (ms_lt hm_n_6206 (om_ed22490e vx_6274) (om_36ac28fa gc_6258)) hG hP hD hS (lv_sub hl [0, 1, 4, 5, 6] rfl)
                          · skip
                            have hG := hG.trans (if_pos c_6275)
                            have gc_6275 := ti_eq c_6275 rfl kc_44
                            refine lv_iconst (v := 1) hx hb dX7_innerLine_179 (by decide) ?_
                            refine lv_goto (tgt := 184) hx hb dX7_innerLine_180 (by decide) ?_
                            refine lv_istore (lv' := [(4, .int 1), (3, .int x_6274), (6, .int 0), (5, .int x_6228), (2, .int x_6192), (0, .ref oM), (1, .int p0)]) hx hb dX7_innerLine_184 hl (by decide) rfl (fun ls hl => ?_)
                            refine lv_iload hx hb dX7_innerLine_186 (lv_at hl 0 rfl) ?_
                            refine lv_if_eq (tgt := 195) hx hb dX7_innerLine_188 (by decide) (fun c => absurd c (by decide)) (fun _ => ?_)
                            refine lv_aload_n hx hb dX7_innerLine_191 rfl (lv_at hl 5 rfl) ?_
                            have hMs := ml_of hD [true, true, true, false, false, false] (wc := [(oc7 oM iM_thrown rM_tape iM_taped iM_size x_6259 x_6260 x_6261 x_6262 x_6263 z_6231 z_6232 iM_trouble rM_letters z_6230 iM_hasCourt rM_r rM_fresh rM_told rM_read rM_st rM_undone rM_kept iM_undos iM_images rM_fresher x_6189 iM_scale iM_night rM_heardRow rM_cutRow iM_breaths iM_cutMany iM_allBreaths rM_trial rM_words iM_fewestBreaths iM_orderMany iM_orderSum iM_leastOrder rM_often iM_setMany iM_someOf iM_allOf iM_allWeight iM_enoughWeight iM_worthSum iM_firstRest iM_leastDrawn), (arI rM_tape kM_tape 900 fM_tape), (arI rM_letters kM_letters 8 f_6264)]) rfl
                            have hFc := va_freeM hD hS hA _ hMs
                            refine va_callv (va_runV (As := []) (rest := []) ⟨hx, hb, hml, hown, hts⟩ (tX7_next l dC dI _ oM iM_thrown rM_tape fM_tape kM_tape iM_taped iM_size x_6259 x_6260 x_6261 x_6262 x_6263 z_6231 z_6232 iM_trouble rM_letters f_6264 kM_letters z_6230 iM_hasCourt rM_r rM_fresh rM_told rM_read rM_st rM_undone rM_kept iM_undos iM_images rM_fresher x_6189 iM_scale iM_night rM_heardRow rM_cutRow iM_breaths iM_cutMany iM_allBreaths rM_trial rM_words iM_fewestBreaths iM_orderMany iM_orderSum iM_leastOrder rM_often iM_setMany iM_someOf iM_allOf iM_allWeight iM_enoughWeight iM_worthSum iM_firstRest iM_leastDrawn b_iM_taped b_iM_size b_x_6260 b_x_6263 b_z_6230 b_iM_hasCourt b_iM_undos b_iM_images b_iM_scale b_iM_breaths b_iM_cutMany e_x_6259_1) (cwV 0 hts (wd_V wd_400 wd_401 wd_402 wd_5 (wd_c wd_403)) rfl rfl rfl dv_yX7_next_0 ⟨Nat.le_of_ble_eq_true rfl, Nat.le_of_ble_eq_true rfl⟩) ⟨Pw.fb, recvX7 hK hP (q0 := 0) rfl, fun U hU hW => Pw.to (hP.ms _ hMs) (hD.ms _ hMs) (hK.ms [true, true, false, false, false] rfl) hE hS hFc hU hW⟩ rfl rfl hl.1 rfl (lv_room (Nat.le_of_ble_eq_true rfl)) dX7_innerLine_192 ⟨Nat.le_of_ble_eq_true rfl, Nat.le_of_ble_eq_true rfl⟩) hS (fun q _ h => hFc q h) hFc (fun u t H locs ht hvm hw hB hz1 hk1 hS => ?_)
                            refine ex_6_6 hB (fun x_6278 x_6279 x_6280 x_6281 x_6282 f_6283 b_x_6279 b_x_6282 e_x_6278_0 e_x_6278_1 e_x_6278_2 e_x_6278_3 hB => ?_)
                            obtain ⟨hP, hD⟩ := Bw.goN (ws' := [(oc7 oM iM_thrown rM_tape iM_taped iM_size x_6278 x_6279 x_6280 x_6281 x_6282 z_6231 z_6232 iM_trouble rM_letters z_6230 iM_hasCourt rM_r rM_fresh rM_told rM_read rM_st rM_undone rM_kept iM_undos iM_images rM_fresher x_6189 iM_scale iM_night rM_heardRow rM_cutRow iM_breaths iM_cutMany iM_allBreaths rM_trial rM_words iM_fewestBreaths iM_orderMany iM_orderSum iM_leastOrder rM_often iM_setMany iM_someOf iM_allOf iM_allWeight iM_enoughWeight iM_worthSum iM_firstRest iM_leastDrawn), (arI rM_tape kM_tape 900 fM_tape), (arI rM_letters kM_letters 8 f_6283), (arI rM_fresh kM_fresh 287 f_6273), (arI rM_read kM_read 90 f_6269), (arI rM_fresher kM_fresher 8 f_6191)]) hB rfl ht hP hD _ hMs hk1 hFc rfl
                            clear hz1 hk1 hvm ht hB hMs
                            have hG := hG.trans (un6_eq e_x_6278_3)
                            clear e_x_6259_1
                            clear e_x_6259_2
                            refine lv_goto (tgt := 24) hx hb dX7_innerLine_195 (by decide) ?_
                            exact ih_n_6206 x_6274 1 x_6278 x_6279 x_6280 x_6281 x_6282 z_6231 z_6232 z_6230 f_6283 f_6273 f_6269 _ _ _ b_x_6279 b_x_6282 b_z_6230 ⟨(om_83b90de5 hi0_n_6206.1 vx_6274), (om_2c69d3de gc_6258 vx_6274)⟩ ⟨(om_1b364b1c kc_1), (om_02032f93 kc_1)⟩ (by assumption) (by rw [show x_6274.toNatClampNeg = z_6193.toNatClampNeg + 1 from (by have q1 := ti_cl (x := x_6274) vx_6274 (om_9548a8fd hi0_n_6206.1); have q2 := ti_cl (x := z_6193) rfl hi0_n_6206.1; omega)]; exact in9) ⟨(om_216d7917 hi4_n_6206.1 o1_f_6273), (om_216d7917 hi4_n_6206.2.1 o7_f_6273), (om_216d7917 hi4_n_6206.2.2 o8_f_6273)⟩ (fun h9 => (om_285f573d hi0_n_6206.1 vx_6274)) e_x_6278_1 (om_622f2a87 hi7_n_6206 e_x_6259_0 e_x_6278_0) (fun h9 => (om_2d38588c hi7_n_6206 e_x_6259_0 (e_x_6278_2 h9.2))) (ms_lt hm_n_6206 (om_ed22490e vx_6274) (om_36ac28fa gc_6258)) hG hP hD hS (lv_sub hl [0, 1, 4, 5, 6] rfl)
                        · skip
                          have hG := hG.trans (if_neg c_6266)
                          have gc_6266 := ti_ne c_6266 rfl kc_0
                          replace gc_6266 : z_6230.toInt + 1 ≤ 0 := om_f992525b gc_6266 gc_6235
                          exact ((om_5185113d b_z_6230.1 gc_6266)).elim
                      · skip
                        have hG := hG.trans (if_pos c_6265)
                        have gc_6265 := ti_eq c_6265 rfl kc_3
                        have h_6284 : (fM_fresh 8).toInt ≤ 1 := hic ⟨(om_02e9bb08 gc_6179), (om_ce492ef9 hp0.2 gc_6265)⟩
                        clear hic
                        refine lv_aload_n hx hb dX7_innerLine_119 rfl (lv_at hl 5 rfl) ?_
                        refine lv_iconst (v := 1) hx hb dX7_innerLine_120 (by decide) ?_
                        refine lv_bipush (v := 9) hx hb dX7_innerLine_121 (by decide) ?_
                        have hMs := ml_of hD [true, true, true, false, false, false] (wc := [(oc7 oM iM_thrown rM_tape iM_taped iM_size x_6259 x_6260 x_6261 x_6262 x_6263 z_6231 z_6232 iM_trouble rM_letters z_6230 iM_hasCourt rM_r rM_fresh rM_told rM_read rM_st rM_undone rM_kept iM_undos iM_images rM_fresher x_6189 iM_scale iM_night rM_heardRow rM_cutRow iM_breaths iM_cutMany iM_allBreaths rM_trial rM_words iM_fewestBreaths iM_orderMany iM_orderSum iM_leastOrder rM_often iM_setMany iM_someOf iM_allOf iM_allWeight iM_enoughWeight iM_worthSum iM_firstRest iM_leastDrawn), (arI rM_tape kM_tape 900 fM_tape), (arI rM_letters kM_letters 8 f_6264)]) rfl
                        have hFc := va_freeM hD hS hA _ hMs
                        refine va_calli (va_runV (As := [.int 1, .int 9]) (rest := []) ⟨hx, hb, hml, hown, hts⟩ (tX7_number l dC dI _ oM iM_thrown rM_tape fM_tape kM_tape iM_taped iM_size x_6259 x_6260 x_6261 x_6262 x_6263 z_6231 z_6232 iM_trouble rM_letters f_6264 kM_letters z_6230 iM_hasCourt rM_r rM_fresh rM_told rM_read rM_st rM_undone rM_kept iM_undos iM_images rM_fresher x_6189 iM_scale iM_night rM_heardRow rM_cutRow iM_breaths iM_cutMany iM_allBreaths rM_trial rM_words iM_fewestBreaths iM_orderMany iM_orderSum iM_leastOrder rM_often iM_setMany iM_someOf iM_allOf iM_allWeight iM_enoughWeight iM_worthSum iM_firstRest iM_leastDrawn 1 9 b_iM_taped b_iM_size b_x_6260 b_x_6263 b_z_6230 b_iM_hasCourt b_iM_undos b_iM_images b_iM_scale b_iM_breaths b_iM_cutMany e_x_6259_1 (om_dc317686 kc_1 kc_9)) (cwV 2 hts (wd_V wd_446 wd_447 wd_448 wd_5 (wd_c wd_449)) rfl rfl rfl dv_yX7_number_2 ⟨Nat.le_of_ble_eq_true rfl, Nat.le_of_ble_eq_true rfl⟩) ⟨Pw.fb, recvX7 hK hP (q0 := 0) rfl, fun U hU hW => Pw.to (hP.ms _ hMs) (hD.ms _ hMs) (hK.ms [true, true, false, false, false] rfl) hE hS hFc hU hW⟩ rfl rfl hl.1 rfl (lv_room (Nat.le_of_ble_eq_true rfl)) dX7_innerLine_123 ⟨Nat.le_of_ble_eq_true rfl, Nat.le_of_ble_eq_true rfl⟩) hS (fun q _ h => hFc q h) hFc (fun r u t H locs ht hvm hw hB hz1 hk1 hS => ?_)
                        have hru9 := hw.2
                        have hw := hw.1
                        refine ex_9_8 hB (fun x_6285 x_6286 x_6287 x_6288 x_6289 x_6290 x_6291 x_6292 f_6293 b_x_6286 b_x_6289 b_x_6292 e_x_6285_0 e_x_6285_1 e_x_6285_2 e_x_6285_3 e_x_6285_4 hB => ?_)
                        obtain ⟨hP, hD⟩ := Bw.goN (ws' := [(oc7 oM iM_thrown rM_tape iM_taped iM_size x_6285 x_6286 x_6287 x_6288 x_6289 x_6290 x_6291 iM_trouble rM_letters x_6292 iM_hasCourt rM_r rM_fresh rM_told rM_read rM_st rM_undone rM_kept iM_undos iM_images rM_fresher x_6189 iM_scale iM_night rM_heardRow rM_cutRow iM_breaths iM_cutMany iM_allBreaths rM_trial rM_words iM_fewestBreaths iM_orderMany iM_orderSum iM_leastOrder rM_often iM_setMany iM_someOf iM_allOf iM_allWeight iM_enoughWeight iM_worthSum iM_firstRest iM_leastDrawn), (arI rM_tape kM_tape 900 fM_tape), (arI rM_letters kM_letters 8 f_6293), (arI rM_fresh kM_fresh 287 f_6204), (arI rM_read kM_read 90 f_6205), (arI rM_fresher kM_fresher 8 f_6191)]) hB rfl ht hP hD _ hMs hk1 hFc rfl
                        clear hz1 hk1 hvm ht hB hMs
                        rw [← hru9] at e_x_6285_4
                        obtain ⟨x_6294, rfl⟩ : ∃ z, z = r := ⟨_, rfl⟩
                        have hG := hG.trans (un10_eq e_x_6285_4)
                        have lx_6294 := hw.2
                        have kl_1 := kc_1
                        have kl_9 := kc_9
                        clear e_x_6259_1
                        clear e_x_6259_2
                        refine lv_goto (tgt := 130) hx hb dX7_innerLine_126 (by decide) ?_
                        refine lv_istore (lv' := [(6, .int x_6294), (5, .int x_6228), (4, .int z_6194), (3, .int z_6193), (2, .int x_6192), (0, .ref oM), (1, .int p0)]) hx hb dX7_innerLine_130 hl (by decide) rfl (fun ls hl => ?_)
                        refine lv_aload_n hx hb dX7_innerLine_132 rfl (lv_at hl 5 rfl) ?_
                        refine va_get (D := (dC, dI)) (ci := 7) (v := .int x_6292) (C := RX7) (T := TX7) (N := 48) hx hb hts inX7 hown hK hP 0 rfl rfl 13 (by decide) (hts _ wd_380) (fun _ h9 => h9) rfl dX7_innerLine_133 ?_
                        refine lv_if_eq (tgt := 140) hx hb dX7_innerLine_136 (by decide) (fun c_6295 => ?_) (fun c_6295 => ?_)
                        · skip
                          have hG := hG.trans (if_pos c_6295)
                          have gc_6295 := ti_eq c_6295 rfl kc_0
                          refine lv_aload_n hx hb dX7_innerLine_140 rfl (lv_at hl 5 rfl) ?_
                          refine va_get (D := (dC, dI)) (ci := 7) (v := .ref rM_read) (C := RX7) (T := TX7) (N := 48) hx hb hts inX7 hown hK hP 0 rfl rfl 18 (by decide) (hts _ wd_158) (fun _ h9 => h9) rfl dX7_innerLine_141 ?_
                          refine lv_iconst (v := 4) hx hb dX7_innerLine_144 (by decide) ?_
                          refine lv_iload_n hx hb dX7_innerLine_145 rfl (lv_at hl 4 rfl) ?_
                          refine lv_imul hx hb dX7_innerLine_146 ?_
                          refine lv_topi (fun x_6296 ex_6296 => ?_)
                          have hG := hG.trans (lt_eq ex_6296)
                          have vx_6296 : x_6296.toInt = 4 * x_6192.toInt := ti_mul ex_6296 kc_4 rfl (om_9e6bb6a4 pl_fM_fresh.2.2.2.2.1.1 pl_fM_fresh.2.2.2.2.1.2 cx_6192) (om_7d3cae7d pl_fM_fresh.2.1 pl_fM_fresh.2.2.1.2 pl_fM_fresh.2.2.2.2.2.1.2 cx_6192)
                          refine lv_iload_n hx hb dX7_innerLine_147 rfl (lv_at hl 3 rfl) ?_
                          refine lv_iadd hx hb dX7_innerLine_148 ?_
                          refine lv_topi (fun x_6297 ex_6297 => ?_)
                          have hG := hG.trans (lt_eq ex_6297)
                          have vx_6297 : x_6297.toInt = 4 * x_6192.toInt + z_6193.toInt := om_5d0caf0f (ti_add ex_6297 vx_6296 rfl (om_80a5d224 pl_fM_fresh.2.2.2.2.1.1 pl_fM_fresh.2.2.2.2.1.2 cx_6192 hi0_n_6206.1) (om_65488096 pl_fM_fresh.2.1 pl_fM_fresh.2.2.1.2 pl_fM_fresh.2.2.2.2.2.1.2 cx_6192 hi0_n_6206.2))
                          refine lv_iload hx hb dX7_innerLine_149 (lv_at hl 1 rfl) ?_
                          refine va_iast hx hb hK hP hD hS 4 3 rfl rfl (ti_in vx_6297 (om_dcc527d7 pl_fM_fresh.2.2.2.2.1.1 pl_fM_fresh.2.2.2.2.1.2 cx_6192 hi0_n_6206.1) (om_1343fdf1 pl_fM_fresh.2.1 pl_fM_fresh.2.2.1.2 pl_fM_fresh.2.2.2.2.2.1.2 cx_6192 hi0_n_6206.2)) dX7_innerLine_151 (fun H locs hP hD hS => ?_)
                          obtain ⟨f_6298, ef_6298⟩ : ∃ g : Nat → Int32, g = upd f_6205 x_6297.toNatClampNeg x_6228 := ⟨_, rfl⟩
                          rw [← ef_6298] at hP hD
                          have hG := hG.trans (lt_eq ef_6298)
                          obtain ⟨hP, hD⟩ := wl2 (ws' := [(oc7 oM iM_thrown rM_tape iM_taped iM_size x_6285 x_6286 x_6287 x_6288 x_6289 x_6290 x_6291 iM_trouble rM_letters x_6292 iM_hasCourt rM_r rM_fresh rM_told rM_read rM_st rM_undone rM_kept iM_undos iM_images rM_fresher x_6189 iM_scale iM_night rM_heardRow rM_cutRow iM_breaths iM_cutMany iM_allBreaths rM_trial rM_words iM_fewestBreaths iM_orderMany iM_orderSum iM_leastOrder rM_often iM_setMany iM_someOf iM_allOf iM_allWeight iM_enoughWeight iM_worthSum iM_firstRest iM_leastDrawn), (arI rM_tape kM_tape 900 fM_tape), (arI rM_letters kM_letters 8 f_6293), (arI rM_fresh kM_fresh 287 f_6204), (arI rM_read kM_read 90 f_6298), (arI rM_fresher kM_fresher 8 f_6191)]) hP hD rfl
                          have q_n1 := ti_cl (x := f_6204 1) rfl (by omega)
                          have pk_f_6298 : POk f_6204 f_6298 := POk.prt hi2_n_6206 ef_6298 (by have q9 := ti_cl (x := x_6297) vx_6297 (om_dcc527d7 pl_fM_fresh.2.2.2.2.1.1 pl_fM_fresh.2.2.2.2.1.2 cx_6192 hi0_n_6206.1); omega) (by have q9 := ti_cl (x := x_6297) vx_6297 (om_dcc527d7 pl_fM_fresh.2.2.2.2.1.1 pl_fM_fresh.2.2.2.2.1.2 cx_6192 hi0_n_6206.1); omega)
                          refine lv_aload_n hx hb dX7_innerLine_152 rfl (lv_at hl 5 rfl) ?_
                          refine va_get (D := (dC, dI)) (ci := 7) (v := .ref rM_fresh) (C := RX7) (T := TX7) (N := 48) hx hb hts inX7 hown hK hP 0 rfl rfl 16 (by decide) (hts _ wd_156) (fun _ h9 => h9) rfl dX7_innerLine_153 ?_
                          refine lv_bipush (v := 45) hx hb dX7_innerLine_156 (by decide) ?_
                          refine lv_iconst (v := 4) hx hb dX7_innerLine_158 (by decide) ?_
                          refine lv_iload_n hx hb dX7_innerLine_159 rfl (lv_at hl 4 rfl) ?_
                          refine lv_imul hx hb dX7_innerLine_160 ?_
                          refine lv_topi (fun x_6299 ex_6299 => ?_)
                          have hG := hG.trans (lt_eq ex_6299)
                          have vx_6299 : x_6299.toInt = 4 * x_6192.toInt := ti_mul ex_6299 kc_4 rfl (om_9e6bb6a4 pl_fM_fresh.2.2.2.2.1.1 pl_fM_fresh.2.2.2.2.1.2 cx_6192) (om_7d3cae7d pl_fM_fresh.2.1 pl_fM_fresh.2.2.1.2 pl_fM_fresh.2.2.2.2.2.1.2 cx_6192)
                          refine lv_iadd hx hb dX7_innerLine_161 ?_
                          refine lv_topi (fun x_6300 ex_6300 => ?_)
                          have hG := hG.trans (lt_eq ex_6300)
                          have vx_6300 : x_6300.toInt = 4 * x_6192.toInt + 45 := om_702bf7ac (ti_add ex_6300 kc_45 vx_6299 (om_0c5ad906 pl_fM_fresh.2.2.2.2.1.1 pl_fM_fresh.2.2.2.2.1.2 cx_6192) (om_5da1924c pl_fM_fresh.2.1 pl_fM_fresh.2.2.1.2 pl_fM_fresh.2.2.2.2.2.1.2 cx_6192))
                          refine lv_iload_n hx hb dX7_innerLine_162 rfl (lv_at hl 3 rfl) ?_
                          refine lv_iadd hx hb dX7_innerLine_163 ?_
                          refine lv_topi (fun x_6301 ex_6301 => ?_)
                          have hG := hG.trans (lt_eq ex_6301)
                          have vx_6301 : x_6301.toInt = 4 * x_6192.toInt + z_6193.toInt + 45 := om_0ab12ad6 (ti_add ex_6301 vx_6300 rfl (om_563b8554 pl_fM_fresh.2.2.2.2.1.1 pl_fM_fresh.2.2.2.2.1.2 cx_6192 hi0_n_6206.1) (om_87f6ba8c pl_fM_fresh.2.1 pl_fM_fresh.2.2.1.2 pl_fM_fresh.2.2.2.2.2.1.2 cx_6192 hi0_n_6206.2))
                          refine lv_iload hx hb dX7_innerLine_164 (lv_at hl 0 rfl) ?_
                          refine va_iast hx hb hK hP hD hS 3 2 rfl rfl (ti_in vx_6301 (om_d2c9edc5 pl_fM_fresh.2.2.2.2.1.1 pl_fM_fresh.2.2.2.2.1.2 cx_6192 hi0_n_6206.1) (om_21e450b4 pl_fM_fresh.2.1 pl_fM_fresh.2.2.1.2 pl_fM_fresh.2.2.2.2.2.1.2 cx_6192 hi0_n_6206.2)) dX7_innerLine_166 (fun H locs hP hD hS => ?_)
                          obtain ⟨f_6302, ef_6302⟩ : ∃ g : Nat → Int32, g = upd f_6204 x_6301.toNatClampNeg x_6294 := ⟨_, rfl⟩
                          rw [← ef_6302] at hP hD
                          have hG := hG.trans (lt_eq ef_6302)
                          obtain ⟨hP, hD⟩ := wl2 (ws' := [(oc7 oM iM_thrown rM_tape iM_taped iM_size x_6285 x_6286 x_6287 x_6288 x_6289 x_6290 x_6291 iM_trouble rM_letters x_6292 iM_hasCourt rM_r rM_fresh rM_told rM_read rM_st rM_undone rM_kept iM_undos iM_images rM_fresher x_6189 iM_scale iM_night rM_heardRow rM_cutRow iM_breaths iM_cutMany iM_allBreaths rM_trial rM_words iM_fewestBreaths iM_orderMany iM_orderSum iM_leastOrder rM_often iM_setMany iM_someOf iM_allOf iM_allWeight iM_enoughWeight iM_worthSum iM_firstRest iM_leastDrawn), (arI rM_tape kM_tape 900 fM_tape), (arI rM_letters kM_letters 8 f_6293), (arI rM_fresh kM_fresh 287 f_6302), (arI rM_read kM_read 90 f_6298), (arI rM_fresher kM_fresher 8 f_6191)]) hP hD rfl
                          have pk_f_6302 : POk f_6302 f_6298 := POk.put pk_f_6298 ef_6302 (Or.inr (Or.inr (Or.inr (Or.inr (Or.inr (Or.inl (by have q9 := ti_cl (x := x_6301) vx_6301 (om_d2c9edc5 pl_fM_fresh.2.2.2.2.1.1 pl_fM_fresh.2.2.2.2.1.2 cx_6192 hi0_n_6206.1); omega)))))))
                          have pl_f_6302 := pk_f_6302.lins
                          have nn9 : (f_6204 1).toNatClampNeg = x_6192.toNatClampNeg := by have q1 := ti_cl (x := x_6192) rfl (om_1ab2c227 pl_fM_fresh.2.2.2.2.1.1 pl_fM_fresh.2.2.2.2.1.2 cx_6192); have q2 := ti_cl (x := f_6204 1) rfl (by omega); have q3 := ti_cl (x := z_6193) rfl hi0_n_6206.1; omega
                          have in9 : InOk f_6302 f_6298 (f_6302 1).toNatClampNeg (z_6193.toNatClampNeg + 1) p0.toInt := in_step hi3_n_6206 rfl ef_6298 (by have q1 := ti_cl (x := x_6192) rfl (om_1ab2c227 pl_fM_fresh.2.2.2.2.1.1 pl_fM_fresh.2.2.2.2.1.2 cx_6192); have q2 := ti_cl (x := f_6204 1) rfl (by omega); have q3 := ti_cl (x := z_6193) rfl hi0_n_6206.1; have q9 := ti_cl (x := x_6297) vx_6297 (om_dcc527d7 pl_fM_fresh.2.2.2.2.1.1 pl_fM_fresh.2.2.2.2.1.2 cx_6192 hi0_n_6206.1); omega) ef_6302 (by have q1 := ti_cl (x := x_6192) rfl (om_1ab2c227 pl_fM_fresh.2.2.2.2.1.1 pl_fM_fresh.2.2.2.2.1.2 cx_6192); have q2 := ti_cl (x := f_6204 1) rfl (by omega); have q3 := ti_cl (x := z_6193) rfl hi0_n_6206.1; have q9 := ti_cl (x := x_6301) vx_6301 (om_d2c9edc5 pl_fM_fresh.2.2.2.2.1.1 pl_fM_fresh.2.2.2.2.1.2 cx_6192 hi0_n_6206.1); omega) (by omega) (by have q1 := ti_cl (x := x_6192) rfl (om_1ab2c227 pl_fM_fresh.2.2.2.2.1.1 pl_fM_fresh.2.2.2.2.1.2 cx_6192); have q2 := ti_cl (x := f_6204 1) rfl (by omega); have q3 := ti_cl (x := z_6193) rfl hi0_n_6206.1; omega) (fun i9 h9 => by rw [nn9]; exact hi2_n_6233 (by omega) i9 (by have q1 := ti_cl (x := x_6192) rfl (om_1ab2c227 pl_fM_fresh.2.2.2.2.1.1 pl_fM_fresh.2.2.2.2.1.2 cx_6192); have q2 := ti_cl (x := f_6204 1) rfl (by omega); have q3 := ti_cl (x := z_6193) rfl hi0_n_6206.1; have q4 := ti_cl (x := z_6229) rfl hi0_n_6233.1; omega)) (fun h9 => by have q0 := kc_0; omega) rfl
                          have o1_f_6302 : (f_6302 1).toInt = (f_6204 1).toInt := put_at ef_6302 (Nat.ne_of_lt (om_9b872883 (ti_cl (x := x_6301) vx_6301 (om_d2c9edc5 pl_fM_fresh.2.2.2.2.1.1 pl_fM_fresh.2.2.2.2.1.2 cx_6192 hi0_n_6206.1)) pl_fM_fresh.2.2.2.2.1.1 pl_fM_fresh.2.2.2.2.1.2 cx_6192 hi0_n_6206.1))
                          have o7_f_6302 : (f_6302 7).toInt = (f_6204 7).toInt := put_at ef_6302 (Nat.ne_of_lt (om_58da8a1c (ti_cl (x := x_6301) vx_6301 (om_d2c9edc5 pl_fM_fresh.2.2.2.2.1.1 pl_fM_fresh.2.2.2.2.1.2 cx_6192 hi0_n_6206.1)) pl_fM_fresh.2.2.2.2.1.1 pl_fM_fresh.2.2.2.2.1.2 cx_6192 hi0_n_6206.1))
                          have o8_f_6302 : (f_6302 8).toInt = (f_6204 8).toInt := put_at ef_6302 (Nat.ne_of_lt (om_f4400bad (ti_cl (x := x_6301) vx_6301 (om_d2c9edc5 pl_fM_fresh.2.2.2.2.1.1 pl_fM_fresh.2.2.2.2.1.2 cx_6192 hi0_n_6206.1)) pl_fM_fresh.2.2.2.2.1.1 pl_fM_fresh.2.2.2.2.1.2 cx_6192 hi0_n_6206.1))
                          obtain ⟨x_6303, ex_6303⟩ : ∃ z : Int32, z = z_6193 + Int32.ofInt 1 := ⟨_, rfl⟩
                          have hG := hG.trans (lt_eq ex_6303)
                          have vx_6303 : x_6303.toInt = z_6193.toInt + 1 := ti_add (y := 1) ex_6303 rfl kc_1 (om_4e4fce7e hi0_n_6206.1) (om_bae2951a hi0_n_6206.2)
                          refine lv_iinc (v := x_6303) (lv' := [(3, .int x_6303), (6, .int x_6294), (5, .int x_6228), (4, .int z_6194), (2, .int x_6192), (0, .ref oM), (1, .int p0)]) hx hb dX7_innerLine_167 hl (k := 3) rfl ex_6303.symm (by decide) rfl (fun ls hl => ?_)
                          refine lv_aload_n hx hb dX7_innerLine_170 rfl (lv_at hl 5 rfl) ?_
                          refine va_get (D := (dC, dI)) (ci := 7) (v := .int x_6287) (C := RX7) (T := TX7) (N := 48) hx hb hts inX7 hown hK hP 0 rfl rfl 6 (by decide) (hts _ wd_383) (fun _ h9 => h9) rfl dX7_innerLine_171 ?_
                          refine lv_bipush (v := 44) hx hb dX7_innerLine_174 (by decide) ?_
                          refine lv_icmp_ne (tgt := 183) hx hb dX7_innerLine_176 (by decide) (fun c_6304 => ?_) (fun c_6304 => ?_)
                          · skip
                            have hG := hG.trans (if_neg c_6304)
                            have gc_6304 := ti_ne c_6304 rfl kc_44
                            clear gc_6304
                            refine lv_iconst (v := 0) hx hb dX7_innerLine_183 (by decide) ?_
                            refine lv_istore (lv' := [(4, .int 0), (3, .int x_6303), (6, .int x_6294), (5, .int x_6228), (2, .int x_6192), (0, .ref oM), (1, .int p0)]) hx hb dX7_innerLine_184 hl (by decide) rfl (fun ls hl => ?_)
                            refine lv_iload hx hb dX7_innerLine_186 (lv_at hl 0 rfl) ?_
                            refine lv_if_eq (tgt := 195) hx hb dX7_innerLine_188 (by decide) (fun _ => ?_) (fun c => absurd c (by decide))
                            refine lv_goto (tgt := 24) hx hb dX7_innerLine_195 (by decide) ?_
                            exact ih_n_6206 x_6303 0 x_6285 x_6286 x_6287 x_6288 x_6289 x_6290 x_6291 x_6292 f_6293 f_6302 f_6298 _ _ _ b_x_6286 b_x_6289 b_x_6292 ⟨(om_83b90de5 hi0_n_6206.1 vx_6303), (om_2c69d3de gc_6258 vx_6303)⟩ ⟨(om_b1de7dbe kc_0), (om_270f4ea0 kc_0)⟩ (by assumption) (by rw [show x_6303.toNatClampNeg = z_6193.toNatClampNeg + 1 from (by have q1 := ti_cl (x := x_6303) vx_6303 (om_9548a8fd hi0_n_6206.1); have q2 := ti_cl (x := z_6193) rfl hi0_n_6206.1; omega)]; exact in9) ⟨(om_216d7917 hi4_n_6206.1 o1_f_6302), (om_216d7917 hi4_n_6206.2.1 o7_f_6302), (om_216d7917 hi4_n_6206.2.2 o8_f_6302)⟩ (fun h9 => (om_285f573d hi0_n_6206.1 vx_6303)) e_x_6285_1 (om_622f2a87 hi7_n_6206 e_x_6259_0 e_x_6285_0) (fun h9 => (om_2d38588c hi7_n_6206 e_x_6259_0 (e_x_6285_3 ⟨(om_02e9bb08 gc_6295), h9.2⟩))) (ms_lt hm_n_6206 (om_ed22490e vx_6303) (om_36ac28fa gc_6258)) hG hP hD hS (lv_sub hl [0, 1, 4, 5, 6] rfl)
                          · skip
                            have hG := hG.trans (if_pos c_6304)
                            have gc_6304 := ti_eq c_6304 rfl kc_44
                            refine lv_iconst (v := 1) hx hb dX7_innerLine_179 (by decide) ?_
                            refine lv_goto (tgt := 184) hx hb dX7_innerLine_180 (by decide) ?_
                            refine lv_istore (lv' := [(4, .int 1), (3, .int x_6303), (6, .int x_6294), (5, .int x_6228), (2, .int x_6192), (0, .ref oM), (1, .int p0)]) hx hb dX7_innerLine_184 hl (by decide) rfl (fun ls hl => ?_)
                            refine lv_iload hx hb dX7_innerLine_186 (lv_at hl 0 rfl) ?_
                            refine lv_if_eq (tgt := 195) hx hb dX7_innerLine_188 (by decide) (fun c => absurd c (by decide)) (fun _ => ?_)
                            refine lv_aload_n hx hb dX7_innerLine_191 rfl (lv_at hl 5 rfl) ?_
                            have hMs := ml_of hD [true, true, true, false, false, false] (wc := [(oc7 oM iM_thrown rM_tape iM_taped iM_size x_6285 x_6286 x_6287 x_6288 x_6289 x_6290 x_6291 iM_trouble rM_letters x_6292 iM_hasCourt rM_r rM_fresh rM_told rM_read rM_st rM_undone rM_kept iM_undos iM_images rM_fresher x_6189 iM_scale iM_night rM_heardRow rM_cutRow iM_breaths iM_cutMany iM_allBreaths rM_trial rM_words iM_fewestBreaths iM_orderMany iM_orderSum iM_leastOrder rM_often iM_setMany iM_someOf iM_allOf iM_allWeight iM_enoughWeight iM_worthSum iM_firstRest iM_leastDrawn), (arI rM_tape kM_tape 900 fM_tape), (arI rM_letters kM_letters 8 f_6293)]) rfl
                            have hFc := va_freeM hD hS hA _ hMs
                            refine va_callv (va_runV (As := []) (rest := []) ⟨hx, hb, hml, hown, hts⟩ (tX7_next l dC dI _ oM iM_thrown rM_tape fM_tape kM_tape iM_taped iM_size x_6285 x_6286 x_6287 x_6288 x_6289 x_6290 x_6291 iM_trouble rM_letters f_6293 kM_letters x_6292 iM_hasCourt rM_r rM_fresh rM_told rM_read rM_st rM_undone rM_kept iM_undos iM_images rM_fresher x_6189 iM_scale iM_night rM_heardRow rM_cutRow iM_breaths iM_cutMany iM_allBreaths rM_trial rM_words iM_fewestBreaths iM_orderMany iM_orderSum iM_leastOrder rM_often iM_setMany iM_someOf iM_allOf iM_allWeight iM_enoughWeight iM_worthSum iM_firstRest iM_leastDrawn b_iM_taped b_iM_size b_x_6286 b_x_6289 b_x_6292 b_iM_hasCourt b_iM_undos b_iM_images b_iM_scale b_iM_breaths b_iM_cutMany e_x_6285_1) (cwV 0 hts (wd_V wd_400 wd_401 wd_402 wd_5 (wd_c wd_403)) rfl rfl rfl dv_yX7_next_0 ⟨Nat.le_of_ble_eq_true rfl, Nat.le_of_ble_eq_true rfl⟩) ⟨Pw.fb, recvX7 hK hP (q0 := 0) rfl, fun U hU hW => Pw.to (hP.ms _ hMs) (hD.ms _ hMs) (hK.ms [true, true, false, false, false] rfl) hE hS hFc hU hW⟩ rfl rfl hl.1 rfl (lv_room (Nat.le_of_ble_eq_true rfl)) dX7_innerLine_192 ⟨Nat.le_of_ble_eq_true rfl, Nat.le_of_ble_eq_true rfl⟩) hS (fun q _ h => hFc q h) hFc (fun u t H locs ht hvm hw hB hz1 hk1 hS => ?_)
                            refine ex_6_6 hB (fun x_6307 x_6308 x_6309 x_6310 x_6311 f_6312 b_x_6308 b_x_6311 e_x_6307_0 e_x_6307_1 e_x_6307_2 e_x_6307_3 hB => ?_)
                            obtain ⟨hP, hD⟩ := Bw.goN (ws' := [(oc7 oM iM_thrown rM_tape iM_taped iM_size x_6307 x_6308 x_6309 x_6310 x_6311 x_6290 x_6291 iM_trouble rM_letters x_6292 iM_hasCourt rM_r rM_fresh rM_told rM_read rM_st rM_undone rM_kept iM_undos iM_images rM_fresher x_6189 iM_scale iM_night rM_heardRow rM_cutRow iM_breaths iM_cutMany iM_allBreaths rM_trial rM_words iM_fewestBreaths iM_orderMany iM_orderSum iM_leastOrder rM_often iM_setMany iM_someOf iM_allOf iM_allWeight iM_enoughWeight iM_worthSum iM_firstRest iM_leastDrawn), (arI rM_tape kM_tape 900 fM_tape), (arI rM_letters kM_letters 8 f_6312), (arI rM_fresh kM_fresh 287 f_6302), (arI rM_read kM_read 90 f_6298), (arI rM_fresher kM_fresher 8 f_6191)]) hB rfl ht hP hD _ hMs hk1 hFc rfl
                            clear hz1 hk1 hvm ht hB hMs
                            have hG := hG.trans (un6_eq e_x_6307_3)
                            clear e_x_6285_1
                            clear e_x_6285_3
                            refine lv_goto (tgt := 24) hx hb dX7_innerLine_195 (by decide) ?_
                            exact ih_n_6206 x_6303 1 x_6307 x_6308 x_6309 x_6310 x_6311 x_6290 x_6291 x_6292 f_6312 f_6302 f_6298 _ _ _ b_x_6308 b_x_6311 b_x_6292 ⟨(om_83b90de5 hi0_n_6206.1 vx_6303), (om_2c69d3de gc_6258 vx_6303)⟩ ⟨(om_1b364b1c kc_1), (om_02032f93 kc_1)⟩ (by assumption) (by rw [show x_6303.toNatClampNeg = z_6193.toNatClampNeg + 1 from (by have q1 := ti_cl (x := x_6303) vx_6303 (om_9548a8fd hi0_n_6206.1); have q2 := ti_cl (x := z_6193) rfl hi0_n_6206.1; omega)]; exact in9) ⟨(om_216d7917 hi4_n_6206.1 o1_f_6302), (om_216d7917 hi4_n_6206.2.1 o7_f_6302), (om_216d7917 hi4_n_6206.2.2 o8_f_6302)⟩ (fun h9 => (om_285f573d hi0_n_6206.1 vx_6303)) e_x_6307_1 (om_dc41b317 hi7_n_6206 e_x_6259_0 e_x_6285_0 e_x_6307_0) (fun h9 => (om_67b34c44 hi7_n_6206 e_x_6259_0 e_x_6285_0 (e_x_6307_2 h9.2))) (ms_lt hm_n_6206 (om_ed22490e vx_6303) (om_36ac28fa gc_6258)) hG hP hD hS (lv_sub hl [0, 1, 4, 5, 6] rfl)
                        · skip
                          have hG := hG.trans (if_neg c_6295)
                          have gc_6295 := ti_ne c_6295 rfl kc_0
                          replace gc_6295 : (-1) * x_6292.toInt + 1 ≤ 0 := om_e3003f79 gc_6295 b_x_6292.1
                          exact wq_v hx hb hr 0 trivial (fun t ht hW => ⟨x_6285, x_6286, x_6287, x_6288, x_6289, x_6290, x_6291, x_6292, x_6189, f_6293, f_6204, f_6205, f_6191, b_x_6286, b_x_6289, b_x_6292, (om_622f2a87 hi7_n_6206 e_x_6259_0 e_x_6285_0), e_x_6285_1, (om_1fc3dec6 gc_6179 b_x_6292.1), (fun h9 => False.elim (om_a5fe015d gc_6295 h9.1)), hi2_n_6206, hG, Bw.to hP hD hK ht hW⟩) hS dX7_innerLine_139 hlocks
                    · skip
                      have hG := hG.trans (if_pos c_6258)
                      have gc_6258 := ti_eq c_6258 rfl kc_4
                      refine lv_aload_n hx hb dX7_innerLine_101 rfl (lv_at hl 5 rfl) ?_
                      refine lv_iconst (v := 5) hx hb dX7_innerLine_102 (by decide) ?_
                      refine lv_aload_n hx hb dX7_innerLine_103 rfl (lv_at hl 5 rfl) ?_
                      refine va_get (D := (dC, dI)) (ci := 7) (v := .int z_6195) (C := RX7) (T := TX7) (N := 48) hx hb hts inX7 hown hK hP 0 rfl rfl 4 (by decide) (hts _ wd_384) (fun _ h9 => h9) rfl dX7_innerLine_104 ?_
                      have hMs := ml_of hD [true, false, false, false, false, false] (wc := [(oc7 oM iM_thrown rM_tape iM_taped iM_size z_6195 z_6196 z_6197 z_6198 z_6199 z_6231 z_6232 iM_trouble rM_letters z_6230 iM_hasCourt rM_r rM_fresh rM_told rM_read rM_st rM_undone rM_kept iM_undos iM_images rM_fresher x_6189 iM_scale iM_night rM_heardRow rM_cutRow iM_breaths iM_cutMany iM_allBreaths rM_trial rM_words iM_fewestBreaths iM_orderMany iM_orderSum iM_leastOrder rM_often iM_setMany iM_someOf iM_allOf iM_allWeight iM_enoughWeight iM_worthSum iM_firstRest iM_leastDrawn)]) rfl
                      have hFc := va_freeM hD hS hA _ hMs
                      refine va_callv (va_runV (As := [.int 5, .int z_6195]) (rest := []) ⟨hx, hb, hml, hown, hts⟩ (tX7_wrong l dC dI _ oM iM_thrown rM_tape iM_taped iM_size z_6195 z_6196 z_6197 z_6198 z_6199 z_6231 z_6232 iM_trouble rM_letters z_6230 iM_hasCourt rM_r rM_fresh rM_told rM_read rM_st rM_undone rM_kept iM_undos iM_images rM_fresher x_6189 iM_scale iM_night rM_heardRow rM_cutRow iM_breaths iM_cutMany iM_allBreaths rM_trial rM_words iM_fewestBreaths iM_orderMany iM_orderSum iM_leastOrder rM_often iM_setMany iM_someOf iM_allOf iM_allWeight iM_enoughWeight iM_worthSum iM_firstRest iM_leastDrawn 5 z_6195 b_iM_taped b_iM_size b_z_6196 b_z_6199 b_z_6230 b_iM_hasCourt b_iM_undos b_iM_images b_iM_scale b_iM_breaths b_iM_cutMany hi6_n_6206) (cwV 2 hts (wd_V wd_430 wd_431 wd_432 wd_5 (wd_c wd_433)) rfl rfl rfl dv_yX7_wrong_2 ⟨Nat.le_of_ble_eq_true rfl, Nat.le_of_ble_eq_true rfl⟩) ⟨Pw.fb, recvX7 hK hP (q0 := 0) rfl, fun U hU hW => Pw.to (hP.ms _ hMs) (hD.ms _ hMs) (hK.ms [false, false, false, false, false] rfl) hE hS hFc hU hW⟩ rfl rfl hl.1 rfl (lv_room (Nat.le_of_ble_eq_true rfl)) dX7_innerLine_107 ⟨Nat.le_of_ble_eq_true rfl, Nat.le_of_ble_eq_true rfl⟩) hS (fun q _ h => hFc q h) hFc (fun u t H locs ht hvm hw hB hz1 hk1 hS => ?_)
                      refine ex_3_3 hB (fun x_6313 x_6314 x_6315 b_x_6315 e_x_6313_0 e_x_6313_1 hB => ?_)
                      obtain ⟨hP, hD⟩ := Bw.goN (ws' := [(oc7 oM iM_thrown rM_tape iM_taped iM_size z_6195 z_6196 z_6197 z_6198 z_6199 x_6313 x_6314 iM_trouble rM_letters x_6315 iM_hasCourt rM_r rM_fresh rM_told rM_read rM_st rM_undone rM_kept iM_undos iM_images rM_fresher x_6189 iM_scale iM_night rM_heardRow rM_cutRow iM_breaths iM_cutMany iM_allBreaths rM_trial rM_words iM_fewestBreaths iM_orderMany iM_orderSum iM_leastOrder rM_often iM_setMany iM_someOf iM_allOf iM_allWeight iM_enoughWeight iM_worthSum iM_firstRest iM_leastDrawn), (arI rM_tape kM_tape 900 fM_tape), (arI rM_letters kM_letters 8 f_6203), (arI rM_fresh kM_fresh 287 f_6204), (arI rM_read kM_read 90 f_6205), (arI rM_fresher kM_fresher 8 f_6191)]) hB rfl ht hP hD _ hMs hk1 hFc rfl
                      clear hz1 hk1 hvm ht hB hMs
                      have hG := hG.trans (un3_eq e_x_6313_1)
                      refine lv_aload_n hx hb dX7_innerLine_110 rfl (lv_at hl 5 rfl) ?_
                      have hMs := ml_of hD [true, true, true, false, false, false] (wc := [(oc7 oM iM_thrown rM_tape iM_taped iM_size z_6195 z_6196 z_6197 z_6198 z_6199 x_6313 x_6314 iM_trouble rM_letters x_6315 iM_hasCourt rM_r rM_fresh rM_told rM_read rM_st rM_undone rM_kept iM_undos iM_images rM_fresher x_6189 iM_scale iM_night rM_heardRow rM_cutRow iM_breaths iM_cutMany iM_allBreaths rM_trial rM_words iM_fewestBreaths iM_orderMany iM_orderSum iM_leastOrder rM_often iM_setMany iM_someOf iM_allOf iM_allWeight iM_enoughWeight iM_worthSum iM_firstRest iM_leastDrawn), (arI rM_tape kM_tape 900 fM_tape), (arI rM_letters kM_letters 8 f_6203)]) rfl
                      have hFc := va_freeM hD hS hA _ hMs
                      refine va_callv (va_runV (As := []) (rest := []) ⟨hx, hb, hml, hown, hts⟩ (tX7_pass l dC dI _ oM iM_thrown rM_tape fM_tape kM_tape iM_taped iM_size z_6195 z_6196 z_6197 z_6198 z_6199 x_6313 x_6314 iM_trouble rM_letters f_6203 kM_letters x_6315 iM_hasCourt rM_r rM_fresh rM_told rM_read rM_st rM_undone rM_kept iM_undos iM_images rM_fresher x_6189 iM_scale iM_night rM_heardRow rM_cutRow iM_breaths iM_cutMany iM_allBreaths rM_trial rM_words iM_fewestBreaths iM_orderMany iM_orderSum iM_leastOrder rM_often iM_setMany iM_someOf iM_allOf iM_allWeight iM_enoughWeight iM_worthSum iM_firstRest iM_leastDrawn b_iM_taped b_iM_size b_z_6196 b_z_6199 b_x_6315 b_iM_hasCourt b_iM_undos b_iM_images b_iM_scale b_iM_breaths b_iM_cutMany hi6_n_6206) (cwV 0 hts (wd_V wd_454 wd_455 wd_456 wd_5 (wd_c wd_457)) rfl rfl rfl dv_yX7_pass_0 ⟨Nat.le_of_ble_eq_true rfl, Nat.le_of_ble_eq_true rfl⟩) ⟨Pw.fb, recvX7 hK hP (q0 := 0) rfl, fun U hU hW => Pw.to (hP.ms _ hMs) (hD.ms _ hMs) (hK.ms [true, true, false, false, false] rfl) hE hS hFc hU hW⟩ rfl rfl hl.1 rfl (lv_room (Nat.le_of_ble_eq_true rfl)) dX7_innerLine_111 ⟨Nat.le_of_ble_eq_true rfl, Nat.le_of_ble_eq_true rfl⟩) hS (fun q _ h => hFc q h) hFc (fun u t H locs ht hvm hw hB hz1 hk1 hS => ?_)
                      refine ex_6_6 hB (fun x_6316 x_6317 x_6318 x_6319 x_6320 f_6321 b_x_6317 b_x_6320 e_x_6316_0 e_x_6316_1 e_x_6316_2 e_x_6316_3 hB => ?_)
                      obtain ⟨hP, hD⟩ := Bw.goN (ws' := [(oc7 oM iM_thrown rM_tape iM_taped iM_size x_6316 x_6317 x_6318 x_6319 x_6320 x_6313 x_6314 iM_trouble rM_letters x_6315 iM_hasCourt rM_r rM_fresh rM_told rM_read rM_st rM_undone rM_kept iM_undos iM_images rM_fresher x_6189 iM_scale iM_night rM_heardRow rM_cutRow iM_breaths iM_cutMany iM_allBreaths rM_trial rM_words iM_fewestBreaths iM_orderMany iM_orderSum iM_leastOrder rM_often iM_setMany iM_someOf iM_allOf iM_allWeight iM_enoughWeight iM_worthSum iM_firstRest iM_leastDrawn), (arI rM_tape kM_tape 900 fM_tape), (arI rM_letters kM_letters 8 f_6321), (arI rM_fresh kM_fresh 287 f_6204), (arI rM_read kM_read 90 f_6205), (arI rM_fresher kM_fresher 8 f_6191)]) hB rfl ht hP hD _ hMs hk1 hFc rfl
                      clear hz1 hk1 hvm ht hB hMs
                      have hG := hG.trans (un6_eq e_x_6316_3)
                      clear hi6_n_6206
                      clear hi8_n_6206
                      refine lv_iload_n hx hb dX7_innerLine_114 rfl (lv_at hl 6 rfl) ?_
                      refine lv_iconst (v := 3) hx hb dX7_innerLine_115 (by decide) ?_
                      refine lv_icmp_ne (tgt := 129) hx hb dX7_innerLine_116 (by decide) (fun c_6322 => ?_) (fun c_6322 => ?_)
                      · skip
                        have hG := hG.trans (if_neg c_6322)
                        have gc_6322 := ti_ne c_6322 rfl kc_3
                        replace gc_6322 : p0.toInt + (-2) ≤ 0 := om_b7ea5ffe gc_6322 hp0.2
                        clear hic
                        refine lv_iconst (v := 0) hx hb dX7_innerLine_129 (by decide) ?_
                        refine lv_istore (lv' := [(6, .int 0), (5, .int x_6228), (4, .int z_6194), (3, .int z_6193), (2, .int x_6192), (0, .ref oM), (1, .int p0)]) hx hb dX7_innerLine_130 hl (by decide) rfl (fun ls hl => ?_)
                        refine lv_aload_n hx hb dX7_innerLine_132 rfl (lv_at hl 5 rfl) ?_
                        refine va_get (D := (dC, dI)) (ci := 7) (v := .int x_6315) (C := RX7) (T := TX7) (N := 48) hx hb hts inX7 hown hK hP 0 rfl rfl 13 (by decide) (hts _ wd_380) (fun _ h9 => h9) rfl dX7_innerLine_133 ?_
                        refine lv_if_eq (tgt := 140) hx hb dX7_innerLine_136 (by decide) (fun c_6323 => ?_) (fun c_6323 => ?_)
                        · skip
                          have hG := hG.trans (if_pos c_6323)
                          have gc_6323 := ti_eq c_6323 rfl kc_0
                          exact ((om_b1155cdc e_x_6313_0 gc_6323)).elim
                        · skip
                          have hG := hG.trans (if_neg c_6323)
                          have gc_6323 := ti_ne c_6323 rfl kc_0
                          replace gc_6323 : (-1) * x_6315.toInt + 1 ≤ 0 := om_e3003f79 gc_6323 b_x_6315.1
                          exact wq_v hx hb hr 0 trivial (fun t ht hW => ⟨x_6316, x_6317, x_6318, x_6319, x_6320, x_6313, x_6314, x_6315, x_6189, f_6321, f_6204, f_6205, f_6191, b_x_6317, b_x_6320, b_x_6315, (om_9348f5ae hi7_n_6206 e_x_6316_0), e_x_6316_1, (om_1fc3dec6 gc_6179 b_x_6315.1), (fun h9 => False.elim (om_92495247 e_x_6313_0 h9.1)), hi2_n_6206, hG, Bw.to hP hD hK ht hW⟩) hS dX7_innerLine_139 hlocks
                      · skip
                        have hG := hG.trans (if_pos c_6322)
                        have gc_6322 := ti_eq c_6322 rfl kc_3
                        have h_6324 : (fM_fresh 8).toInt ≤ 1 := hic ⟨(om_02e9bb08 gc_6179), (om_ce492ef9 hp0.2 gc_6322)⟩
                        clear hic
                        refine lv_aload_n hx hb dX7_innerLine_119 rfl (lv_at hl 5 rfl) ?_
                        refine lv_iconst (v := 1) hx hb dX7_innerLine_120 (by decide) ?_
                        refine lv_bipush (v := 9) hx hb dX7_innerLine_121 (by decide) ?_
                        have hMs := ml_of hD [true, true, true, false, false, false] (wc := [(oc7 oM iM_thrown rM_tape iM_taped iM_size x_6316 x_6317 x_6318 x_6319 x_6320 x_6313 x_6314 iM_trouble rM_letters x_6315 iM_hasCourt rM_r rM_fresh rM_told rM_read rM_st rM_undone rM_kept iM_undos iM_images rM_fresher x_6189 iM_scale iM_night rM_heardRow rM_cutRow iM_breaths iM_cutMany iM_allBreaths rM_trial rM_words iM_fewestBreaths iM_orderMany iM_orderSum iM_leastOrder rM_often iM_setMany iM_someOf iM_allOf iM_allWeight iM_enoughWeight iM_worthSum iM_firstRest iM_leastDrawn), (arI rM_tape kM_tape 900 fM_tape), (arI rM_letters kM_letters 8 f_6321)]) rfl
                        have hFc := va_freeM hD hS hA _ hMs
                        refine va_calli (va_runV (As := [.int 1, .int 9]) (rest := []) ⟨hx, hb, hml, hown, hts⟩ (tX7_number l dC dI _ oM iM_thrown rM_tape fM_tape kM_tape iM_taped iM_size x_6316 x_6317 x_6318 x_6319 x_6320 x_6313 x_6314 iM_trouble rM_letters f_6321 kM_letters x_6315 iM_hasCourt rM_r rM_fresh rM_told rM_read rM_st rM_undone rM_kept iM_undos iM_images rM_fresher x_6189 iM_scale iM_night rM_heardRow rM_cutRow iM_breaths iM_cutMany iM_allBreaths rM_trial rM_words iM_fewestBreaths iM_orderMany iM_orderSum iM_leastOrder rM_often iM_setMany iM_someOf iM_allOf iM_allWeight iM_enoughWeight iM_worthSum iM_firstRest iM_leastDrawn 1 9 b_iM_taped b_iM_size b_x_6317 b_x_6320 b_x_6315 b_iM_hasCourt b_iM_undos b_iM_images b_iM_scale b_iM_breaths b_iM_cutMany e_x_6316_1 (om_dc317686 kc_1 kc_9)) (cwV 2 hts (wd_V wd_446 wd_447 wd_448 wd_5 (wd_c wd_449)) rfl rfl rfl dv_yX7_number_2 ⟨Nat.le_of_ble_eq_true rfl, Nat.le_of_ble_eq_true rfl⟩) ⟨Pw.fb, recvX7 hK hP (q0 := 0) rfl, fun U hU hW => Pw.to (hP.ms _ hMs) (hD.ms _ hMs) (hK.ms [true, true, false, false, false] rfl) hE hS hFc hU hW⟩ rfl rfl hl.1 rfl (lv_room (Nat.le_of_ble_eq_true rfl)) dX7_innerLine_123 ⟨Nat.le_of_ble_eq_true rfl, Nat.le_of_ble_eq_true rfl⟩) hS (fun q _ h => hFc q h) hFc (fun r u t H locs ht hvm hw hB hz1 hk1 hS => ?_)
                        have hru9 := hw.2
                        have hw := hw.1
                        refine ex_9_8 hB (fun x_6325 x_6326 x_6327 x_6328 x_6329 x_6330 x_6331 x_6332 f_6333 b_x_6326 b_x_6329 b_x_6332 e_x_6325_0 e_x_6325_1 e_x_6325_2 e_x_6325_3 e_x_6325_4 hB => ?_)
                        obtain ⟨hP, hD⟩ := Bw.goN (ws' := [(oc7 oM iM_thrown rM_tape iM_taped iM_size x_6325 x_6326 x_6327 x_6328 x_6329 x_6330 x_6331 iM_trouble rM_letters x_6332 iM_hasCourt rM_r rM_fresh rM_told rM_read rM_st rM_undone rM_kept iM_undos iM_images rM_fresher x_6189 iM_scale iM_night rM_heardRow rM_cutRow iM_breaths iM_cutMany iM_allBreaths rM_trial rM_words iM_fewestBreaths iM_orderMany iM_orderSum iM_leastOrder rM_often iM_setMany iM_someOf iM_allOf iM_allWeight iM_enoughWeight iM_worthSum iM_firstRest iM_leastDrawn), (arI rM_tape kM_tape 900 fM_tape), (arI rM_letters kM_letters 8 f_6333), (arI rM_fresh kM_fresh 287 f_6204), (arI rM_read kM_read 90 f_6205), (arI rM_fresher kM_fresher 8 f_6191)]) hB rfl ht hP hD _ hMs hk1 hFc rfl
                        clear hz1 hk1 hvm ht hB hMs
                        rw [← hru9] at e_x_6325_4
                        obtain ⟨x_6334, rfl⟩ : ∃ z, z = r := ⟨_, rfl⟩
                        have hG := hG.trans (un10_eq e_x_6325_4)
                        have lx_6334 := hw.2
                        have kl_1 := kc_1
                        have kl_9 := kc_9
                        clear e_x_6316_1
                        clear e_x_6316_2
                        refine lv_goto (tgt := 130) hx hb dX7_innerLine_126 (by decide) ?_
                        refine lv_istore (lv' := [(6, .int x_6334), (5, .int x_6228), (4, .int z_6194), (3, .int z_6193), (2, .int x_6192), (0, .ref oM), (1, .int p0)]) hx hb dX7_innerLine_130 hl (by decide) rfl (fun ls hl => ?_)
                        refine lv_aload_n hx hb dX7_innerLine_132 rfl (lv_at hl 5 rfl) ?_
                        refine va_get (D := (dC, dI)) (ci := 7) (v := .int x_6332) (C := RX7) (T := TX7) (N := 48) hx hb hts inX7 hown hK hP 0 rfl rfl 13 (by decide) (hts _ wd_380) (fun _ h9 => h9) rfl dX7_innerLine_133 ?_
                        refine lv_if_eq (tgt := 140) hx hb dX7_innerLine_136 (by decide) (fun c_6335 => ?_) (fun c_6335 => ?_)
                        · skip
                          have hG := hG.trans (if_pos c_6335)
                          have gc_6335 := ti_eq c_6335 rfl kc_0
                          exact ((om_2f02dee4 e_x_6313_0 e_x_6325_2 gc_6335)).elim
                        · skip
                          have hG := hG.trans (if_neg c_6335)
                          have gc_6335 := ti_ne c_6335 rfl kc_0
                          replace gc_6335 : (-1) * x_6332.toInt + 1 ≤ 0 := om_e3003f79 gc_6335 b_x_6332.1
                          exact wq_v hx hb hr 0 trivial (fun t ht hW => ⟨x_6325, x_6326, x_6327, x_6328, x_6329, x_6330, x_6331, x_6332, x_6189, f_6333, f_6204, f_6205, f_6191, b_x_6326, b_x_6329, b_x_6332, (om_622f2a87 hi7_n_6206 e_x_6316_0 e_x_6325_0), e_x_6325_1, (om_1fc3dec6 gc_6179 b_x_6332.1), (fun h9 => False.elim (om_a5fe015d gc_6335 h9.1)), hi2_n_6206, hG, Bw.to hP hD hK ht hW⟩) hS dX7_innerLine_139 hlocks
                · skip
                  have hG := hG.trans (if_neg c_6234)
                  have gc_6234 := ti_nle c_6234 rfl rfl
                  refine lv_aload_n hx hb dX7_innerLine_51 rfl (lv_at hl 5 rfl) ?_
                  refine va_get (D := (dC, dI)) (ci := 7) (v := .int z_6230) (C := RX7) (T := TX7) (N := 48) hx hb hts inX7 hown hK hP 0 rfl rfl 13 (by decide) (hts _ wd_380) (fun _ h9 => h9) rfl dX7_innerLine_52 ?_
                  refine lv_if_ne (tgt := 83) hx hb dX7_innerLine_55 (by decide) (fun c_6336 => ?_) (fun c_6336 => ?_)
                  · skip
                    have hG := hG.trans (if_neg c_6336)
                    have gc_6336 := ti_ne c_6336 rfl kc_0
                    replace gc_6336 : (-1) * z_6230.toInt + 1 ≤ 0 := om_e3003f79 gc_6336 b_z_6230.1
                    obtain ⟨x_6337, ex_6337⟩ : ∃ z : Int32, z = z_6229 + Int32.ofInt 1 := ⟨_, rfl⟩
                    have hG := hG.trans (lt_eq ex_6337)
                    have vx_6337 : x_6337.toInt = z_6229.toInt + 1 := ti_add (y := 1) ex_6337 rfl kc_1 (om_4e4fce7e hi0_n_6233.1) (om_d6392c09 hi0_n_6206.2 hi0_n_6233.2)
                    refine lv_iinc (v := x_6337) (lv' := [(6, .int x_6337), (5, .int x_6228), (4, .int z_6194), (3, .int z_6193), (2, .int x_6192), (0, .ref oM), (1, .int p0)]) hx hb dX7_innerLine_83 hl (k := 0) rfl ex_6337.symm (by decide) rfl (fun ls hl => ?_)
                    refine lv_goto (tgt := 45) hx hb dX7_innerLine_86 (by decide) ?_
                    exact ih_n_6233 x_6337 z_6230 z_6231 z_6232 _ _ _ b_z_6230 ⟨(om_83b90de5 hi0_n_6233.1 vx_6337), (om_afcf07ef gc_6234 vx_6337)⟩ hi1_n_6233 (show NeI _ _ _ _ _ from fun h9 i9 hi9 => by by_cases e9 : i9 = z_6229.toNatClampNeg; (rw [e9]; omega); exact hi2_n_6233 (by omega) i9 (by have q1 := ti_cl (x := x_6337) vx_6337 (om_9548a8fd hi0_n_6233.1); have q2 := ti_cl (x := z_6229) rfl hi0_n_6233.1; omega)) (ms_lt hm_n_6233 (om_dd4ae0bc vx_6337) (om_d5382009 gc_6234)) hG hP hD hS (lv_sub hl [0, 1, 2, 3, 4, 5, 6] rfl)
                  · skip
                    have hG := hG.trans (if_pos c_6336)
                    have gc_6336 := ti_eq c_6336 rfl kc_0
                    have h_6338 : 1 ≤ (f_6204 1).toInt := e_x_6225_1 (om_6c480895 hi1_n_6233 gc_6336)
                    clear e_x_6225_1
                    have h_6339 : x_6228.toInt < (f_6204 1).toInt := lx_6228.2.1 h_6338
                    refine lv_aload_n hx hb dX7_innerLine_58 rfl (lv_at hl 5 rfl) ?_
                    refine va_get (D := (dC, dI)) (ci := 7) (v := .ref rM_read) (C := RX7) (T := TX7) (N := 48) hx hb hts inX7 hown hK hP 0 rfl rfl 18 (by decide) (hts _ wd_158) (fun _ h9 => h9) rfl dX7_innerLine_59 ?_
                    refine lv_iconst (v := 4) hx hb dX7_innerLine_62 (by decide) ?_
                    refine lv_iload_n hx hb dX7_innerLine_63 rfl (lv_at hl 4 rfl) ?_
                    refine lv_imul hx hb dX7_innerLine_64 ?_
                    refine lv_topi (fun x_6340 ex_6340 => ?_)
                    have hG := hG.trans (lt_eq ex_6340)
                    have vx_6340 : x_6340.toInt = 4 * x_6192.toInt := ti_mul ex_6340 kc_4 rfl (om_9e6bb6a4 pl_fM_fresh.2.2.2.2.1.1 pl_fM_fresh.2.2.2.2.1.2 cx_6192) (om_7d3cae7d pl_fM_fresh.2.1 pl_fM_fresh.2.2.1.2 pl_fM_fresh.2.2.2.2.2.1.2 cx_6192)
                    refine lv_iload hx hb dX7_innerLine_65 (lv_at hl 0 rfl) ?_
                    refine lv_iadd hx hb dX7_innerLine_67 ?_
                    refine lv_topi (fun x_6341 ex_6341 => ?_)
                    have hG := hG.trans (lt_eq ex_6341)
                    have vx_6341 : x_6341.toInt = 4 * x_6192.toInt + z_6229.toInt := om_5d0caf0f (ti_add ex_6341 vx_6340 rfl (om_80a5d224 pl_fM_fresh.2.2.2.2.1.1 pl_fM_fresh.2.2.2.2.1.2 cx_6192 hi0_n_6233.1) (om_92405955 pl_fM_fresh.2.1 pl_fM_fresh.2.2.1.2 pl_fM_fresh.2.2.2.2.2.1.2 cx_6192 hi0_n_6206.2 hi0_n_6233.2))
                    refine va_iald hx hb hK hP 4 3 rfl rfl (ti_in vx_6341 (om_dcc527d7 pl_fM_fresh.2.2.2.2.1.1 pl_fM_fresh.2.2.2.2.1.2 cx_6192 hi0_n_6233.1) (om_87f3af2a pl_fM_fresh.2.1 pl_fM_fresh.2.2.1.2 pl_fM_fresh.2.2.2.2.2.1.2 cx_6192 hi0_n_6206.2 hi0_n_6233.2)) dX7_innerLine_68 ?_
                    refine lv_topi (fun x_6342 ex_6342 => ?_)
                    have hG := hG.trans (lt_eq ex_6342)
                    have kx_6342 : (f_6205 x_6341.toNatClampNeg).toInt = x_6342.toInt := by rw [ex_6342]
                    have cx_6342 : (f_6205 (4 * x_6192.toNatClampNeg + z_6229.toNatClampNeg)).toInt = x_6342.toInt := by rw [show 4 * x_6192.toNatClampNeg + z_6229.toNatClampNeg = x_6341.toNatClampNeg from (om_4de36627 (ti_cl (x := x_6192) rfl (om_1ab2c227 pl_fM_fresh.2.2.2.2.1.1 pl_fM_fresh.2.2.2.2.1.2 cx_6192)) (ti_cl (x := z_6229) rfl hi0_n_6233.1) (ti_cl (x := x_6341) vx_6341 (om_dcc527d7 pl_fM_fresh.2.2.2.2.1.1 pl_fM_fresh.2.2.2.2.1.2 cx_6192 hi0_n_6233.1)))]; exact kx_6342
                    refine lv_iload hx hb dX7_innerLine_69 (lv_at hl 1 rfl) ?_
                    refine lv_icmp_ne (tgt := 83) hx hb dX7_innerLine_71 (by decide) (fun c_6343 => ?_) (fun c_6343 => ?_)
                    · skip
                      have hG := hG.trans (if_neg c_6343)
                      have gc_6343 := ti_ne c_6343 rfl rfl
                      obtain ⟨x_6344, ex_6344⟩ : ∃ z : Int32, z = z_6229 + Int32.ofInt 1 := ⟨_, rfl⟩
                      have hG := hG.trans (lt_eq ex_6344)
                      have vx_6344 : x_6344.toInt = z_6229.toInt + 1 := ti_add (y := 1) ex_6344 rfl kc_1 (om_4e4fce7e hi0_n_6233.1) (om_d6392c09 hi0_n_6206.2 hi0_n_6233.2)
                      refine lv_iinc (v := x_6344) (lv' := [(6, .int x_6344), (5, .int x_6228), (4, .int z_6194), (3, .int z_6193), (2, .int x_6192), (0, .ref oM), (1, .int p0)]) hx hb dX7_innerLine_83 hl (k := 0) rfl ex_6344.symm (by decide) rfl (fun ls hl => ?_)
                      refine lv_goto (tgt := 45) hx hb dX7_innerLine_86 (by decide) ?_
                      exact ih_n_6233 x_6344 z_6230 z_6231 z_6232 _ _ _ b_z_6230 ⟨(om_83b90de5 hi0_n_6233.1 vx_6344), (om_afcf07ef gc_6234 vx_6344)⟩ hi1_n_6233 (show NeI _ _ _ _ _ from fun h9 i9 hi9 => by by_cases e9 : i9 = z_6229.toNatClampNeg; (rw [e9]; omega); exact hi2_n_6233 (by omega) i9 (by have q1 := ti_cl (x := x_6344) vx_6344 (om_9548a8fd hi0_n_6233.1); have q2 := ti_cl (x := z_6229) rfl hi0_n_6233.1; omega)) (ms_lt hm_n_6233 (om_dd4ae0bc vx_6344) (om_d5382009 gc_6234)) hG hP hD hS (lv_sub hl [0, 1, 2, 3, 4, 5, 6] rfl)
                    · skip
                      have hG := hG.trans (if_pos c_6343)
                      have gc_6343 := ti_eq c_6343 rfl rfl
                      refine lv_aload_n hx hb dX7_innerLine_74 rfl (lv_at hl 5 rfl) ?_
                      refine lv_iconst (v := 3) hx hb dX7_innerLine_75 (by decide) ?_
                      refine lv_aload_n hx hb dX7_innerLine_76 rfl (lv_at hl 5 rfl) ?_
                      refine va_get (D := (dC, dI)) (ci := 7) (v := .int z_6195) (C := RX7) (T := TX7) (N := 48) hx hb hts inX7 hown hK hP 0 rfl rfl 4 (by decide) (hts _ wd_384) (fun _ h9 => h9) rfl dX7_innerLine_77 ?_
                      have hMs := ml_of hD [true, false, false, false, false, false] (wc := [(oc7 oM iM_thrown rM_tape iM_taped iM_size z_6195 z_6196 z_6197 z_6198 z_6199 z_6231 z_6232 iM_trouble rM_letters z_6230 iM_hasCourt rM_r rM_fresh rM_told rM_read rM_st rM_undone rM_kept iM_undos iM_images rM_fresher x_6189 iM_scale iM_night rM_heardRow rM_cutRow iM_breaths iM_cutMany iM_allBreaths rM_trial rM_words iM_fewestBreaths iM_orderMany iM_orderSum iM_leastOrder rM_often iM_setMany iM_someOf iM_allOf iM_allWeight iM_enoughWeight iM_worthSum iM_firstRest iM_leastDrawn)]) rfl
                      have hFc := va_freeM hD hS hA _ hMs
                      refine va_callv (va_runV (As := [.int 3, .int z_6195]) (rest := []) ⟨hx, hb, hml, hown, hts⟩ (tX7_wrong l dC dI _ oM iM_thrown rM_tape iM_taped iM_size z_6195 z_6196 z_6197 z_6198 z_6199 z_6231 z_6232 iM_trouble rM_letters z_6230 iM_hasCourt rM_r rM_fresh rM_told rM_read rM_st rM_undone rM_kept iM_undos iM_images rM_fresher x_6189 iM_scale iM_night rM_heardRow rM_cutRow iM_breaths iM_cutMany iM_allBreaths rM_trial rM_words iM_fewestBreaths iM_orderMany iM_orderSum iM_leastOrder rM_often iM_setMany iM_someOf iM_allOf iM_allWeight iM_enoughWeight iM_worthSum iM_firstRest iM_leastDrawn 3 z_6195 b_iM_taped b_iM_size b_z_6196 b_z_6199 b_z_6230 b_iM_hasCourt b_iM_undos b_iM_images b_iM_scale b_iM_breaths b_iM_cutMany hi6_n_6206) (cwV 2 hts (wd_V wd_430 wd_431 wd_432 wd_5 (wd_c wd_433)) rfl rfl rfl dv_yX7_wrong_2 ⟨Nat.le_of_ble_eq_true rfl, Nat.le_of_ble_eq_true rfl⟩) ⟨Pw.fb, recvX7 hK hP (q0 := 0) rfl, fun U hU hW => Pw.to (hP.ms _ hMs) (hD.ms _ hMs) (hK.ms [false, false, false, false, false] rfl) hE hS hFc hU hW⟩ rfl rfl hl.1 rfl (lv_room (Nat.le_of_ble_eq_true rfl)) dX7_innerLine_80 ⟨Nat.le_of_ble_eq_true rfl, Nat.le_of_ble_eq_true rfl⟩) hS (fun q _ h => hFc q h) hFc (fun u t H locs ht hvm hw hB hz1 hk1 hS => ?_)
                      refine ex_3_3 hB (fun x_6345 x_6346 x_6347 b_x_6347 e_x_6345_0 e_x_6345_1 hB => ?_)
                      obtain ⟨hP, hD⟩ := Bw.goN (ws' := [(oc7 oM iM_thrown rM_tape iM_taped iM_size z_6195 z_6196 z_6197 z_6198 z_6199 x_6345 x_6346 iM_trouble rM_letters x_6347 iM_hasCourt rM_r rM_fresh rM_told rM_read rM_st rM_undone rM_kept iM_undos iM_images rM_fresher x_6189 iM_scale iM_night rM_heardRow rM_cutRow iM_breaths iM_cutMany iM_allBreaths rM_trial rM_words iM_fewestBreaths iM_orderMany iM_orderSum iM_leastOrder rM_often iM_setMany iM_someOf iM_allOf iM_allWeight iM_enoughWeight iM_worthSum iM_firstRest iM_leastDrawn), (arI rM_tape kM_tape 900 fM_tape), (arI rM_letters kM_letters 8 f_6203), (arI rM_fresh kM_fresh 287 f_6204), (arI rM_read kM_read 90 f_6205), (arI rM_fresher kM_fresher 8 f_6191)]) hB rfl ht hP hD _ hMs hk1 hFc rfl
                      clear hz1 hk1 hvm ht hB hMs
                      have hG := hG.trans (un3_eq e_x_6345_1)
                      obtain ⟨x_6348, ex_6348⟩ : ∃ z : Int32, z = z_6229 + Int32.ofInt 1 := ⟨_, rfl⟩
                      have hG := hG.trans (lt_eq ex_6348)
                      have vx_6348 : x_6348.toInt = z_6229.toInt + 1 := ti_add (y := 1) ex_6348 rfl kc_1 (om_4e4fce7e hi0_n_6233.1) (om_d6392c09 hi0_n_6206.2 hi0_n_6233.2)
                      refine lv_iinc (v := x_6348) (lv' := [(6, .int x_6348), (5, .int x_6228), (4, .int z_6194), (3, .int z_6193), (2, .int x_6192), (0, .ref oM), (1, .int p0)]) hx hb dX7_innerLine_83 hl (k := 0) rfl ex_6348.symm (by decide) rfl (fun ls hl => ?_)
                      refine lv_goto (tgt := 45) hx hb dX7_innerLine_86 (by decide) ?_
                      exact ih_n_6233 x_6348 x_6347 x_6345 x_6346 _ _ _ b_x_6347 ⟨(om_83b90de5 hi0_n_6233.1 vx_6348), (om_afcf07ef gc_6234 vx_6348)⟩ (om_00f1c5dd b_x_6227.2 e_x_6345_0) (show NeI _ _ _ _ _ from fun h9 i9 hi9 => by by_cases e9 : i9 = z_6229.toNatClampNeg; (rw [e9]; omega); exact hi2_n_6233 (by omega) i9 (by have q1 := ti_cl (x := x_6348) vx_6348 (om_9548a8fd hi0_n_6233.1); have q2 := ti_cl (x := z_6229) rfl hi0_n_6233.1; omega)) (ms_lt hm_n_6233 (om_dd4ae0bc vx_6348) (om_d5382009 gc_6234)) hG hP hD hS (lv_sub hl [0, 1, 2, 3, 4, 5, 6] rfl)
            exact key_n_6233 (((z_6193.toInt - (0 : Int32).toInt).toNat) + 1) 0 x_6227 x_6225 x_6226 _ _ _ b_x_6227 ⟨(om_b1de7dbe kc_0), (om_2dfe280d hi0_n_6206.1 kc_0)⟩ om_1cb5f934 (show NeI _ _ _ _ _ from fun _ i9 hi9 => absurd hi9 (Nat.not_lt_zero i9)) (Nat.lt_add_one _) hG hP hD hS hl
    exact key_n_6206 (((4 - (0 : Int32).toInt).toNat) + 1) 0 1 x_6181 x_6182 x_6183 x_6184 x_6185 x_6186 x_6187 x_6188 f_6190 fM_fresh fM_read _ _ _ b_x_6182 b_x_6185 b_x_6188 ⟨(om_b1de7dbe kc_0), (om_bebe011a kc_0)⟩ ⟨(om_1b364b1c kc_1), (om_02032f93 kc_1)⟩ (by assumption) in_zero ⟨rfl, rfl, rfl⟩ (fun h9 => by have q0 := kc_0; have q1 := kc_1; omega) e_x_6181_1 e_x_6181_0 (fun h9 => by have q0 := kc_0; have q1 := kc_1; have q9 := e_x_6181_3 (by omega); omega) (Nat.lt_add_one _) hG hP hD hS hl
  · skip
    have hG := hG.trans (if_neg c_6179)
    have gc_6179 := ti_ne c_6179 rfl kc_0
    replace gc_6179 : (-1) * iM_failed.toInt + 1 ≤ 0 := om_e3003f79 gc_6179 b_iM_failed.1
    clear hil
    clear hic
    exact wq_v hx hb hr 0 trivial (fun t ht hW => ⟨iM_at, iM_end, iM_token, iM_whole, iM_nameSize, iM_fault, iM_place, iM_failed, iM_fresherSize, fM_letters, fM_fresh, fM_read, fM_fresher, ⟨b_iM_end.1, b_iM_end.2⟩, ⟨b_iM_nameSize.1, b_iM_nameSize.2⟩, ⟨b_iM_failed.1, b_iM_failed.2⟩, om_1cb5f934, r_T, om_1cb5f934, (fun h9 => False.elim (om_a5fe015d gc_6179 h9.1)), r_P, hG, Bw.to hP hD hK ht hW⟩) hS dX7_innerLine_7 hlocks
