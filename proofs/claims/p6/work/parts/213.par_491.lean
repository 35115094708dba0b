set_option maxHeartbeats 4000000 in
set_option maxRecDepth 100000 in
theorem tX7_innerLine (l : Launch) (dC : Nat → ClassId) (dI : Nat → Nat → Nat) (sz : Nat) (oM : Nat) (iM_thrown : Int32) (rM_tape : Nat) (fM_tape : Nat → Int32) (kM_tape : ClassId) (iM_taped : Int32) (iM_size : Int32) (iM_at : Int32) (iM_end : Int32) (iM_token : Int32) (iM_whole : Int32) (iM_nameSize : Int32) (iM_fault : Int32) (iM_place : Int32) (iM_trouble : Int32) (rM_letters : Nat) (fM_letters : Nat → Int32) (kM_letters : ClassId) (iM_failed : Int32) (iM_hasCourt : Int32) (rM_r : Nat) (rM_fresh : Nat) (fM_fresh : Nat → Int32) (kM_fresh : ClassId) (rM_told : Nat) (rM_read : Nat) (fM_read : Nat → Int32) (kM_read : ClassId) (rM_st : Nat) (rM_undone : Nat) (rM_kept : Nat) (iM_undos : Int32) (iM_images : Int32) (rM_fresher : Nat) (fM_fresher : Nat → Int32) (kM_fresher : ClassId) (iM_fresherSize : Int32) (iM_scale : Int32) (iM_night : Int32) (rM_heardRow : Nat) (rM_cutRow : Nat) (iM_breaths : Int32) (iM_cutMany : Int32) (iM_allBreaths : Int32) (rM_trial : Nat) (rM_words : Nat) (iM_fewestBreaths : Int32) (iM_orderMany : Int32) (iM_orderSum : Int32) (iM_leastOrder : Int32) (rM_often : Nat) (iM_setMany : Int32) (iM_someOf : Int32) (iM_allOf : Int32) (iM_allWeight : Int64) (iM_enoughWeight : Int64) (iM_worthSum : Int64) (iM_firstRest : Int32) (iM_leastDrawn : Int32) (p0 : Int32) (b_iM_taped : 0 ≤ iM_taped.toInt ∧ iM_taped.toInt ≤ 900) (b_iM_size : 0 ≤ iM_size.toInt ∧ iM_size.toInt ≤ 900) (b_iM_end : 0 ≤ iM_end.toInt ∧ iM_end.toInt ≤ 900) (b_iM_nameSize : 0 ≤ iM_nameSize.toInt ∧ iM_nameSize.toInt ≤ 900) (b_iM_failed : 0 ≤ iM_failed.toInt ∧ iM_failed.toInt ≤ 1) (b_iM_hasCourt : 0 ≤ iM_hasCourt.toInt ∧ iM_hasCourt.toInt ≤ 1) (b_iM_undos : 0 ≤ iM_undos.toInt ∧ iM_undos.toInt ≤ 16) (b_iM_images : 0 ≤ iM_images.toInt ∧ iM_images.toInt ≤ 3) (b_iM_scale : 1 ≤ iM_scale.toInt ∧ iM_scale.toInt ≤ 1296) (b_iM_breaths : 0 ≤ iM_breaths.toInt ∧ iM_breaths.toInt ≤ 399) (b_iM_cutMany : 0 ≤ iM_cutMany.toInt ∧ iM_cutMany.toInt ≤ 399) (r_T : ImpP (iM_token.toInt = 2) (iM_nameSize.toInt ≤ 8)) (r_P : POk fM_fresh fM_read) (hp0 : 1 ≤ p0.toInt ∧ p0.toInt ≤ 3) (hil : ImpP (iM_failed.toInt ≤ 0) ((fM_fresh 7).toInt ≤ 7)) (hic : ImpP (iM_failed.toInt ≤ 0 ∧ p0.toInt = 3) ((fM_fresh 8).toInt ≤ 1)) : Met l yX7_innerLine (Cond.code yX7_innerLine cX7_innerLine 7 none :: wG) ({ frames := 7, cells := 0, slots := 0, locals := 175 }) (va_Pc [.ref oM, .int p0] (Pw dC dI sz [(oc7 oM iM_thrown rM_tape iM_taped iM_size iM_at iM_end iM_token iM_whole iM_nameSize iM_fault iM_place iM_trouble rM_letters iM_failed iM_hasCourt rM_r rM_fresh rM_told rM_read rM_st rM_undone rM_kept iM_undos iM_images rM_fresher iM_fresherSize iM_scale iM_night rM_heardRow rM_cutRow iM_breaths iM_cutMany iM_allBreaths rM_trial rM_words iM_fewestBreaths iM_orderMany iM_orderSum iM_leastOrder rM_often iM_setMany iM_someOf iM_allOf iM_allWeight iM_enoughWeight iM_worthSum iM_firstRest iM_leastDrawn), (arI rM_tape kM_tape 900 fM_tape), (arI rM_letters kM_letters 8 fM_letters), (arI rM_fresh kM_fresh 287 fM_fresh), (arI rM_read kM_read 90 fM_read), (arI rM_fresher kM_fresher 8 fM_fresher)] [(kM_tape, .int), (kM_letters, .int), (kM_fresh, .int), (kM_read, .int), (kM_fresher, .int)])) (va_Qv (fun (_ : Nat) => True) (fun (_ : Nat) (t : State) => ∃ (niM_at : Int32) (niM_end : Int32) (niM_token : Int32) (niM_whole : Int32) (niM_nameSize : Int32) (niM_fault : Int32) (niM_place : Int32) (niM_failed : Int32) (niM_fresherSize : Int32) (nfM_letters : Nat → Int32) (nfM_fresh : Nat → Int32) (nfM_read : Nat → Int32) (nfM_fresher : Nat → Int32), (0 ≤ niM_end.toInt ∧ niM_end.toInt ≤ 900) ∧ (0 ≤ niM_nameSize.toInt ∧ niM_nameSize.toInt ≤ 900) ∧ (0 ≤ niM_failed.toInt ∧ niM_failed.toInt ≤ 1) ∧ (iM_end.toInt ≤ niM_end.toInt) ∧ (ImpP (niM_token.toInt = 2) (niM_nameSize.toInt ≤ 8)) ∧ (iM_failed.toInt ≤ niM_failed.toInt) ∧ (ImpP (niM_failed.toInt ≤ 0 ∧ niM_token.toInt = 59 ) (iM_end.toInt + 1 ≤ niM_end.toInt)) ∧ (POk nfM_fresh nfM_read) ∧ (PX7_innerLine fM_tape iM_size iM_at iM_end iM_token iM_whole iM_nameSize iM_fault iM_place fM_letters iM_failed fM_fresh fM_read fM_fresher iM_fresherSize p0 = (niM_at, niM_end, niM_token, niM_whole, niM_nameSize, niM_fault, niM_place, niM_failed, niM_fresherSize, nfM_letters, nfM_fresh, nfM_read, nfM_fresher)) ∧ Bw dC dI (va_A [(oc7 oM iM_thrown rM_tape iM_taped iM_size iM_at iM_end iM_token iM_whole iM_nameSize iM_fault iM_place iM_trouble rM_letters iM_failed iM_hasCourt rM_r rM_fresh rM_told rM_read rM_st rM_undone rM_kept iM_undos iM_images rM_fresher iM_fresherSize iM_scale iM_night rM_heardRow rM_cutRow iM_breaths iM_cutMany iM_allBreaths rM_trial rM_words iM_fewestBreaths iM_orderMany iM_orderSum iM_leastOrder rM_often iM_setMany iM_someOf iM_allOf iM_allWeight iM_enoughWeight iM_worthSum iM_firstRest iM_leastDrawn), (arI rM_tape kM_tape 900 fM_tape), (arI rM_letters kM_letters 8 fM_letters), (arI rM_fresh kM_fresh 287 fM_fresh), (arI rM_read kM_read 90 fM_read), (arI rM_fresher kM_fresher 8 fM_fresher)] sz) [(oc7 oM iM_thrown rM_tape iM_taped iM_size niM_at niM_end niM_token niM_whole niM_nameSize niM_fault niM_place iM_trouble rM_letters niM_failed iM_hasCourt rM_r rM_fresh rM_told rM_read rM_st rM_undone rM_kept iM_undos iM_images rM_fresher niM_fresherSize iM_scale iM_night rM_heardRow rM_cutRow iM_breaths iM_cutMany iM_allBreaths rM_trial rM_words iM_fewestBreaths iM_orderMany iM_orderSum iM_leastOrder rM_often iM_setMany iM_someOf iM_allOf iM_allWeight iM_enoughWeight iM_worthSum iM_firstRest iM_leastDrawn), (arI rM_tape kM_tape 900 fM_tape), (arI rM_letters kM_letters 8 nfM_letters), (arI rM_fresh kM_fresh 287 nfM_fresh), (arI rM_read kM_read 90 nfM_read), (arI rM_fresher kM_fresher 8 nfM_fresher)] [(kM_tape, .int), (kM_letters, .int), (kM_fresh, .int), (kM_read, .int), (kM_fresher, .int)] t) (va_A [(oc7 oM iM_thrown rM_tape iM_taped iM_size iM_at iM_end iM_token iM_whole iM_nameSize iM_fault iM_place iM_trouble rM_letters iM_failed iM_hasCourt rM_r rM_fresh rM_told rM_read rM_st rM_undone rM_kept iM_undos iM_images rM_fresher iM_fresherSize iM_scale iM_night rM_heardRow rM_cutRow iM_breaths iM_cutMany iM_allBreaths rM_trial rM_words iM_fewestBreaths iM_orderMany iM_orderSum iM_leastOrder rM_often iM_setMany iM_someOf iM_allOf iM_allWeight iM_enoughWeight iM_worthSum iM_firstRest iM_leastDrawn), (arI rM_tape kM_tape 900 fM_tape), (arI rM_letters kM_letters 8 fM_letters), (arI rM_fresh kM_fresh 287 fM_fresh), (arI rM_read kM_read 90 fM_read), (arI rM_fresher kM_fresher 8 fM_fresher)] sz)) 0 0 (va_A [(oc7 oM iM_thrown rM_tape iM_taped iM_size iM_at iM_end iM_token iM_whole iM_nameSize iM_fault iM_place iM_trouble rM_letters iM_failed iM_hasCourt rM_r rM_fresh rM_told rM_read rM_st rM_undone rM_kept iM_undos iM_images rM_fresher iM_fresherSize iM_scale iM_night rM_heardRow rM_cutRow iM_breaths iM_cutMany iM_allBreaths rM_trial rM_words iM_fewestBreaths iM_orderMany iM_orderSum iM_leastOrder rM_often iM_setMany iM_someOf iM_allOf iM_allWeight iM_enoughWeight iM_worthSum iM_firstRest iM_leastDrawn), (arI rM_tape kM_tape 900 fM_tape), (arI rM_letters kM_letters 8 fM_letters), (arI rM_fresh kM_fresh 287 fM_fresh), (arI rM_read kM_read 90 fM_read), (arI rM_fresher kM_fresher 8 fM_fresher)] sz) := by
  refine Met.ofW (cc := cX7_innerLine) (maxL := 7) (ret := none) pnX7 rfl ?_
  intro p e s m args below meth c s₁ B hml hv
  obtain ⟨rfl, hsz, hP, hK, hD0, hE⟩ := hv
  have hx := B.exec
  have hb := B.bytes
  have hr := B.returns
  have hts : ∀ w ∈ wG, w.before ([.ref oM, .int p0] : List Value).toArray s = true := fun w h => atoms_spec (ws := Cond.code yX7_innerLine cX7_innerLine 7 none :: wG) B.pre w (List.mem_cons_of_mem _ h)
  have hown : s.vm.findClass RX7 = some m.cls := own_of B.named rfl
  have hlocks := B.notSynchronized
  subst hsz
  have hD := hD0.self (sz := s.heap.size)
  generalize hAe : va_A [(oc7 oM iM_thrown rM_tape iM_taped iM_size iM_at iM_end iM_token iM_whole iM_nameSize iM_fault iM_place iM_trouble rM_letters iM_failed iM_hasCourt rM_r rM_fresh rM_told rM_read rM_st rM_undone rM_kept iM_undos iM_images rM_fresher iM_fresherSize iM_scale iM_night rM_heardRow rM_cutRow iM_breaths iM_cutMany iM_allBreaths rM_trial rM_words iM_fewestBreaths iM_orderMany iM_orderSum iM_leastOrder rM_often iM_setMany iM_someOf iM_allOf iM_allWeight iM_enoughWeight iM_worthSum iM_firstRest iM_leastDrawn), (arI rM_tape kM_tape 900 fM_tape), (arI rM_letters kM_letters 8 fM_letters), (arI rM_fresh kM_fresh 287 fM_fresh), (arI rM_read kM_read 90 fM_read), (arI rM_fresher kM_fresher 8 fM_fresher)] s.heap.size = A at hD hE ⊢
  have hA : ∀ q : Nat, s.heap.size ≤ q → A q := fun q h => by rw [← hAe]; exact Or.inr h
  have hS : va_S A s.heap s.heap [] := va_S.rf
  have hl := lv_entry ([.ref oM, .int p0]) (n := 7) (Nat.le_of_ble_eq_true rfl)
  rw [lg_entry_eq]
  generalize (lg_sl ([.ref oM, .int p0]) ++ List.replicate (7 - (lg_sl ([.ref oM, .int p0])).length) Slot.unset).toArray = ls at hl ⊢
  have hl : lv_has ls 7 [(0, .ref oM), (1, .int p0)] := hl
  have hG := PX7_innerLine_eq fM_tape iM_size iM_at iM_end iM_token iM_whole iM_nameSize iM_fault iM_place fM_letters iM_failed fM_fresh fM_read fM_fresher iM_fresherSize p0
  have pl_fM_fresh := r_P.lins
  refine lv_aload_n hx hb dX7_innerLine_0 rfl (lv_at hl 0 rfl) ?_
  refine va_get (D := (dC, dI)) (ci := 7) (v := .int iM_failed) (C := RX7) (T := TX7) (N := 48) hx hb hts inX7 hown hK hP 0 rfl rfl 13 (by decide) (hts _ wd_380) (fun _ h9 => h9) rfl dX7_innerLine_1 ?_
  refine lv_if_eq (tgt := 8) hx hb dX7_innerLine_4 (by decide) (fun c_6156 => ?_) (fun c_6156 => ?_)
  · skip
    have hG := hG.trans (if_pos c_6156)
    have gc_6156 := ti_eq c_6156 rfl kc_0
    have h_6157 := hil (by omega)
    clear hil
    refine lv_aload_n hx hb dX7_innerLine_8 rfl (lv_at hl 0 rfl) ?_
    have hFc := va_freeI hD hS hA
    refine va_callv (va_runV (As := []) (rest := []) ⟨hx, hb, hml, hown, hts⟩ (tX7_newName l dC dI _ oM iM_thrown rM_tape fM_tape kM_tape iM_taped iM_size iM_at iM_end iM_token iM_whole iM_nameSize iM_fault iM_place iM_trouble rM_letters fM_letters kM_letters iM_failed iM_hasCourt rM_r rM_fresh fM_fresh kM_fresh rM_told rM_read fM_read kM_read rM_st rM_undone rM_kept iM_undos iM_images rM_fresher fM_fresher kM_fresher iM_fresherSize iM_scale iM_night rM_heardRow rM_cutRow iM_breaths iM_cutMany iM_allBreaths rM_trial rM_words iM_fewestBreaths iM_orderMany iM_orderSum iM_leastOrder rM_often iM_setMany iM_someOf iM_allOf iM_allWeight iM_enoughWeight iM_worthSum iM_firstRest iM_leastDrawn b_iM_taped b_iM_size b_iM_end b_iM_nameSize b_iM_failed b_iM_hasCourt b_iM_undos b_iM_images b_iM_scale b_iM_breaths b_iM_cutMany (by first | assumption | exact (fun h9 => by have q0 := kc_0; have q1 := kc_1; omega)) (by assumption)) (cwV 0 hts (wd_V wd_462 wd_463 wd_464 wd_5 (wd_c wd_465)) rfl rfl rfl dv_yX7_newName_0 ⟨Nat.le_of_ble_eq_true rfl, Nat.le_of_ble_eq_true rfl⟩) ⟨Pw.fb, recvX7 hK hP (q0 := 0) rfl, fun U hU hW => Pw.to hP hD hK hE hS hFc hU hW⟩ rfl rfl hl.1 rfl (lv_room (Nat.le_of_ble_eq_true rfl)) dX7_innerLine_9 ⟨Nat.le_of_ble_eq_true rfl, Nat.le_of_ble_eq_true rfl⟩) hS (fun q _ h => hFc q h) hFc (fun u t H locs ht hvm hw hB hz1 hk1 hS => ?_)
    refine ex_11_8 hB (fun x_6158 x_6159 x_6160 x_6161 x_6162 x_6163 x_6164 x_6165 x_6166 f_6167 f_6168 b_x_6159 b_x_6162 b_x_6165 e_x_6158_0 e_x_6158_1 e_x_6158_2 e_x_6158_3 e_x_6158_4 hB => ?_)
    obtain ⟨hP, hD⟩ := Bw.goA (ws' := [(oc7 oM iM_thrown rM_tape iM_taped iM_size x_6158 x_6159 x_6160 x_6161 x_6162 x_6163 x_6164 iM_trouble rM_letters x_6165 iM_hasCourt rM_r rM_fresh rM_told rM_read rM_st rM_undone rM_kept iM_undos iM_images rM_fresher x_6166 iM_scale iM_night rM_heardRow rM_cutRow iM_breaths iM_cutMany iM_allBreaths rM_trial rM_words iM_fewestBreaths iM_orderMany iM_orderSum iM_leastOrder rM_often iM_setMany iM_someOf iM_allOf iM_allWeight iM_enoughWeight iM_worthSum iM_firstRest iM_leastDrawn), (arI rM_tape kM_tape 900 fM_tape), (arI rM_letters kM_letters 8 f_6167), (arI rM_fresh kM_fresh 287 fM_fresh), (arI rM_read kM_read 90 fM_read), (arI rM_fresher kM_fresher 8 f_6168)]) hB rfl ht hFc rfl
    clear hz1 hk1 hvm ht hB
    have hG := hG.trans (un11_eq e_x_6158_4)
    clear r_T
    refine lv_aload_n hx hb dX7_innerLine_12 rfl (lv_at hl 0 rfl) ?_
    refine va_get (D := (dC, dI)) (ci := 7) (v := .ref rM_fresh) (C := RX7) (T := TX7) (N := 48) hx hb hts inX7 hown hK hP 0 rfl rfl 16 (by decide) (hts _ wd_156) (fun _ h9 => h9) rfl dX7_innerLine_13 ?_
    refine lv_iconst (v := 1) hx hb dX7_innerLine_16 (by decide) ?_
    refine va_iald hx hb hK hP 3 2 rfl rfl (by unfold vp_in; decide) dX7_innerLine_17 ?_
    refine lv_topi (fun x_6169 ex_6169 => ?_)
    have hG := hG.trans (lt_eq ex_6169)
    have cx_6169 : (fM_fresh 1).toInt = x_6169.toInt := congrArg Int32.toInt (show fM_fresh 1 = x_6169 from ex_6169.symm)
    refine lv_istore_n (lv' := [(2, .int x_6169), (0, .ref oM), (1, .int p0)]) hx hb dX7_innerLine_18 rfl hl (by decide) rfl (fun ls hl => ?_)
    refine lv_iconst (v := 0) hx hb dX7_innerLine_19 (by decide) ?_
    refine lv_istore_n (lv' := [(3, .int 0), (2, .int x_6169), (0, .ref oM), (1, .int p0)]) hx hb dX7_innerLine_20 rfl hl (by decide) rfl (fun ls hl => ?_)
    refine lv_iconst (v := 1) hx hb dX7_innerLine_21 (by decide) ?_
    refine lv_istore (lv' := [(4, .int 1), (3, .int 0), (2, .int x_6169), (0, .ref oM), (1, .int p0)]) hx hb dX7_innerLine_22 hl (by decide) rfl (fun ls hl => ?_)
    have hl := lv_sub hl (l' := [(4, .int 1), (3, .int 0), (2, .int x_6169), (0, .ref oM), (1, .int p0)]) [0, 1, 2, 3, 4] rfl
    have key_n_6183 : ∀ (n_6183 : Nat) (z_6170 : Int32) (z_6171 : Int32) (z_6172 : Int32) (z_6173 : Int32) (z_6174 : Int32) (z_6175 : Int32) (z_6176 : Int32) (z_6177 : Int32) (z_6178 : Int32) (z_6179 : Int32) (f_6180 : Nat → Int32) (f_6181 : Nat → Int32) (f_6182 : Nat → Int32) (H : Heap) (locs : List Loc) (ls : Array Slot), (0 ≤ z_6173.toInt ∧ z_6173.toInt ≤ 900) → (0 ≤ z_6176.toInt ∧ z_6176.toInt ≤ 900) → (0 ≤ z_6179.toInt ∧ z_6179.toInt ≤ 1) → (0 ≤ z_6170.toInt ∧ z_6170.toInt ≤ 4) → (0 ≤ z_6171.toInt ∧ z_6171.toInt ≤ 1) → (POk f_6181 f_6182) → (InOk f_6181 f_6182 (f_6181 1).toNatClampNeg z_6170.toNatClampNeg p0.toInt) → ((f_6181 1).toInt = (fM_fresh 1).toInt ∧ (f_6181 7).toInt = (fM_fresh 7).toInt ∧ (f_6181 8).toInt = (fM_fresh 8).toInt) → (ImpP (z_6171.toInt ≤ 0) (1 ≤ z_6170.toInt)) → (ImpP (z_6174.toInt = 2) (z_6176.toInt ≤ 8)) → (iM_end.toInt ≤ z_6173.toInt) → (ImpP (z_6179.toInt ≤ 0 ∧ z_6174.toInt = 59 ) (iM_end.toInt + 1 ≤ z_6173.toInt)) → (4 - z_6170.toInt).toNat < n_6183 → (PX7_innerLine fM_tape iM_size iM_at iM_end iM_token iM_whole iM_nameSize iM_fault iM_place fM_letters iM_failed fM_fresh fM_read fM_fresher iM_fresherSize p0 = HX7_innerLine_0 fM_tape iM_size p0 x_6166 f_6168 x_6169 n_6183 z_6170 z_6171 z_6172 z_6173 z_6174 z_6175 z_6176 z_6177 z_6178 z_6179 f_6180 f_6181 f_6182) → va_P (dC, dI) vwCl [(oc7 oM iM_thrown rM_tape iM_taped iM_size z_6172 z_6173 z_6174 z_6175 z_6176 z_6177 z_6178 iM_trouble rM_letters z_6179 iM_hasCourt rM_r rM_fresh rM_told rM_read rM_st rM_undone rM_kept iM_undos iM_images rM_fresher x_6166 iM_scale iM_night rM_heardRow rM_cutRow iM_breaths iM_cutMany iM_allBreaths rM_trial rM_words iM_fewestBreaths iM_orderMany iM_orderSum iM_leastOrder rM_often iM_setMany iM_someOf iM_allOf iM_allWeight iM_enoughWeight iM_worthSum iM_firstRest iM_leastDrawn), (arI rM_tape kM_tape 900 fM_tape), (arI rM_letters kM_letters 8 f_6180), (arI rM_fresh kM_fresh 287 f_6181), (arI rM_read kM_read 90 f_6182), (arI rM_fresher kM_fresher 8 f_6168)] H → va_D A [(oc7 oM iM_thrown rM_tape iM_taped iM_size z_6172 z_6173 z_6174 z_6175 z_6176 z_6177 z_6178 iM_trouble rM_letters z_6179 iM_hasCourt rM_r rM_fresh rM_told rM_read rM_st rM_undone rM_kept iM_undos iM_images rM_fresher x_6166 iM_scale iM_night rM_heardRow rM_cutRow iM_breaths iM_cutMany iM_allBreaths rM_trial rM_words iM_fewestBreaths iM_orderMany iM_orderSum iM_leastOrder rM_often iM_setMany iM_someOf iM_allOf iM_allWeight iM_enoughWeight iM_worthSum iM_firstRest iM_leastDrawn), (arI rM_tape kM_tape 900 fM_tape), (arI rM_letters kM_letters 8 f_6180), (arI rM_fresh kM_fresh 287 f_6181), (arI rM_read kM_read 90 f_6182), (arI rM_fresher kM_fresher 8 f_6168)] → va_S A s.heap H locs → lv_has ls 7 [(4, .int z_6171), (3, .int z_6170), (2, .int x_6169), (0, .ref oM), (1, .int p0)] → W p l e (headSpec (Cond.code yX7_innerLine cX7_innerLine 7 none :: wG) ({ frames := 7, cells := 0, slots := 0, locals := 175 })).room s m ([.ref oM, .int p0] : List Value).toArray below meth c H locs 0 0 (MQ below (va_Qv (fun (_ : Nat) => True) (fun (_ : Nat) (t : State) => ∃ (niM_at : Int32) (niM_end : Int32) (niM_token : Int32) (niM_whole : Int32) (niM_nameSize : Int32) (niM_fault : Int32) (niM_place : Int32) (niM_failed : Int32) (niM_fresherSize : Int32) (nfM_letters : Nat → Int32) (nfM_fresh : Nat → Int32) (nfM_read : Nat → Int32) (nfM_fresher : Nat → Int32), (0 ≤ niM_end.toInt ∧ niM_end.toInt ≤ 900) ∧ (0 ≤ niM_nameSize.toInt ∧ niM_nameSize.toInt ≤ 900) ∧ (0 ≤ niM_failed.toInt ∧ niM_failed.toInt ≤ 1) ∧ (iM_end.toInt ≤ niM_end.toInt) ∧ (ImpP (niM_token.toInt = 2) (niM_nameSize.toInt ≤ 8)) ∧ (iM_failed.toInt ≤ niM_failed.toInt) ∧ (ImpP (niM_failed.toInt ≤ 0 ∧ niM_token.toInt = 59 ) (iM_end.toInt + 1 ≤ niM_end.toInt)) ∧ (POk nfM_fresh nfM_read) ∧ (PX7_innerLine fM_tape iM_size iM_at iM_end iM_token iM_whole iM_nameSize iM_fault iM_place fM_letters iM_failed fM_fresh fM_read fM_fresher iM_fresherSize p0 = (niM_at, niM_end, niM_token, niM_whole, niM_nameSize, niM_fault, niM_place, niM_failed, niM_fresherSize, nfM_letters, nfM_fresh, nfM_read, nfM_fresher)) ∧ Bw dC dI A [(oc7 oM iM_thrown rM_tape iM_taped iM_size niM_at niM_end niM_token niM_whole niM_nameSize niM_fault niM_place iM_trouble rM_letters niM_failed iM_hasCourt rM_r rM_fresh rM_told rM_read rM_st rM_undone rM_kept iM_undos iM_images rM_fresher niM_fresherSize iM_scale iM_night rM_heardRow rM_cutRow iM_breaths iM_cutMany iM_allBreaths rM_trial rM_words iM_fewestBreaths iM_orderMany iM_orderSum iM_leastOrder rM_often iM_setMany iM_someOf iM_allOf iM_allWeight iM_enoughWeight iM_worthSum iM_firstRest iM_leastDrawn), (arI rM_tape kM_tape 900 fM_tape), (arI rM_letters kM_letters 8 nfM_letters), (arI rM_fresh kM_fresh 287 nfM_fresh), (arI rM_read kM_read 90 nfM_read), (arI rM_fresher kM_fresher 8 nfM_fresher)] [(kM_tape, .int), (kM_letters, .int), (kM_fresh, .int), (kM_read, .int), (kM_fresher, .int)] t) A) ([.ref oM, .int p0] : List Value).toArray s 0 0 A) (F0 m 24 ls []) := by
      intro n_6183
      induction n_6183 with
      | zero => intro z_6170 z_6171 z_6172 z_6173 z_6174 z_6175 z_6176 z_6177 z_6178 z_6179 f_6180 f_6181 f_6182 H locs ls b_z_6173 b_z_6176 b_z_6179 hi0_n_6183 hi1_n_6183 hi2_n_6183 hi3_n_6183 hi4_n_6183 hi5_n_6183 hi6_n_6183 hi7_n_6183 hi8_n_6183 hm; exact absurd hm (Nat.not_lt_zero _)
      | succ n_6183 ih_n_6183 =>
        intro z_6170 z_6171 z_6172 z_6173 z_6174 z_6175 z_6176 z_6177 z_6178 z_6179 f_6180 f_6181 f_6182 H locs ls b_z_6173 b_z_6176 b_z_6179 hi0_n_6183 hi1_n_6183 hi2_n_6183 hi3_n_6183 hi4_n_6183 hi5_n_6183 hi6_n_6183 hi7_n_6183 hi8_n_6183 hm_n_6183 hG hP hD hS hl
        have hG := hG.trans (HX7_innerLine_0_eq _ _ _ _ _ _ _ _ _ _ _ _ _ _ _ _ _ _ _ _)
        have pl_f_6181 := hi2_n_6183.lins
        refine lv_iload hx hb dX7_innerLine_24 (lv_at hl 0 rfl) ?_
        refine lv_if_eq (tgt := 198) hx hb dX7_innerLine_26 (by decide) (fun c_6184 => ?_) (fun c_6184 => ?_)
        · skip
          have hG := hG.trans (if_pos c_6184)
          have gc_6184 := ti_eq c_6184 rfl kc_0
          have h_6185 := hi5_n_6183 (by omega)
          clear hi5_n_6183
          refine lv_aload_n hx hb dX7_innerLine_198 rfl (lv_at hl 3 rfl) ?_
          refine va_get (D := (dC, dI)) (ci := 7) (v := .int z_6179) (C := RX7) (T := TX7) (N := 48) hx hb hts inX7 hown hK hP 0 rfl rfl 13 (by decide) (hts _ wd_380) (fun _ h9 => h9) rfl dX7_innerLine_199 ?_
          refine lv_if_eq (tgt := 206) hx hb dX7_innerLine_202 (by decide) (fun c_6186 => ?_) (fun c_6186 => ?_)
          · skip
            have hG := hG.trans (if_pos c_6186)
            have gc_6186 := ti_eq c_6186 rfl kc_0
            refine lv_aload_n hx hb dX7_innerLine_206 rfl (lv_at hl 3 rfl) ?_
            refine va_get (D := (dC, dI)) (ci := 7) (v := .ref rM_fresh) (C := RX7) (T := TX7) (N := 48) hx hb hts inX7 hown hK hP 0 rfl rfl 16 (by decide) (hts _ wd_156) (fun _ h9 => h9) rfl dX7_innerLine_207 ?_
            refine lv_bipush (v := 27) hx hb dX7_innerLine_210 (by decide) ?_
            refine lv_iload_n hx hb dX7_innerLine_212 rfl (lv_at hl 2 rfl) ?_
            refine lv_iadd hx hb dX7_innerLine_213 ?_
            refine lv_topi (fun x_6187 ex_6187 => ?_)
            have hG := hG.trans (lt_eq ex_6187)
            have vx_6187 : x_6187.toInt = x_6169.toInt + 27 := by have q := ti_add ex_6187 kc_27 rfl (by omega) (by omega); omega
            refine lv_iload_n hx hb dX7_innerLine_214 rfl (lv_at hl 1 rfl) ?_
            refine va_iast hx hb hK hP hD hS 3 2 rfl rfl (ti_in vx_6187 (by omega) (by omega)) dX7_innerLine_215 (fun H locs hP hD hS => ?_)
            obtain ⟨f_6188, ef_6188⟩ : ∃ g : Nat → Int32, g = upd f_6181 x_6187.toNatClampNeg z_6170 := ⟨_, rfl⟩
            rw [← ef_6188] at hP hD
            have hG := hG.trans (lt_eq ef_6188)
            obtain ⟨hP, hD⟩ := wl2 (ws' := [(oc7 oM iM_thrown rM_tape iM_taped iM_size z_6172 z_6173 z_6174 z_6175 z_6176 z_6177 z_6178 iM_trouble rM_letters z_6179 iM_hasCourt rM_r rM_fresh rM_told rM_read rM_st rM_undone rM_kept iM_undos iM_images rM_fresher x_6166 iM_scale iM_night rM_heardRow rM_cutRow iM_breaths iM_cutMany iM_allBreaths rM_trial rM_words iM_fewestBreaths iM_orderMany iM_orderSum iM_leastOrder rM_often iM_setMany iM_someOf iM_allOf iM_allWeight iM_enoughWeight iM_worthSum iM_firstRest iM_leastDrawn), (arI rM_tape kM_tape 900 fM_tape), (arI rM_letters kM_letters 8 f_6180), (arI rM_fresh kM_fresh 287 f_6188), (arI rM_read kM_read 90 f_6182), (arI rM_fresher kM_fresher 8 f_6168)]) hP hD rfl
            have o1_f_6188 : (f_6188 1).toInt = (f_6181 1).toInt := put_at ef_6188 (by have q9 := ti_cl (x := x_6187) vx_6187 (by omega); omega)
            have o7_f_6188 : (f_6188 7).toInt = (f_6181 7).toInt := put_at ef_6188 (by have q9 := ti_cl (x := x_6187) vx_6187 (by omega); omega)
            have o8_f_6188 : (f_6188 8).toInt = (f_6181 8).toInt := put_at ef_6188 (by have q9 := ti_cl (x := x_6187) vx_6187 (by omega); omega)
            refine lv_aload_n hx hb dX7_innerLine_216 rfl (lv_at hl 3 rfl) ?_
            refine lv_iload_n hx hb dX7_innerLine_217 rfl (lv_at hl 4 rfl) ?_
            have hMs := ml_of hD [true, false, false, true, false, true] (wc := [(oc7 oM iM_thrown rM_tape iM_taped iM_size z_6172 z_6173 z_6174 z_6175 z_6176 z_6177 z_6178 iM_trouble rM_letters z_6179 iM_hasCourt rM_r rM_fresh rM_told rM_read rM_st rM_undone rM_kept iM_undos iM_images rM_fresher x_6166 iM_scale iM_night rM_heardRow rM_cutRow iM_breaths iM_cutMany iM_allBreaths rM_trial rM_words iM_fewestBreaths iM_orderMany iM_orderSum iM_leastOrder rM_often iM_setMany iM_someOf iM_allOf iM_allWeight iM_enoughWeight iM_worthSum iM_firstRest iM_leastDrawn), (arI rM_fresh kM_fresh 287 f_6188), (arI rM_fresher kM_fresher 8 f_6168)]) rfl
            have hFc := va_freeM hD hS hA _ hMs
            refine va_callv (va_runV (As := [.int p0]) (rest := []) ⟨hx, hb, hml, hown, hts⟩ (tX7_lay l dC dI _ oM iM_thrown rM_tape iM_taped iM_size z_6172 z_6173 z_6174 z_6175 z_6176 z_6177 z_6178 iM_trouble rM_letters z_6179 iM_hasCourt rM_r rM_fresh f_6188 kM_fresh rM_told rM_read rM_st rM_undone rM_kept iM_undos iM_images rM_fresher f_6168 kM_fresher x_6166 iM_scale iM_night rM_heardRow rM_cutRow iM_breaths iM_cutMany iM_allBreaths rM_trial rM_words iM_fewestBreaths iM_orderMany iM_orderSum iM_leastOrder rM_often iM_setMany iM_someOf iM_allOf iM_allWeight iM_enoughWeight iM_worthSum iM_firstRest iM_leastDrawn p0 b_iM_taped b_iM_size b_z_6173 b_z_6176 b_z_6179 b_iM_hasCourt b_iM_undos b_iM_images b_iM_scale b_iM_breaths b_iM_cutMany (by first | assumption | exact (fun h9 => by have q0 := kc_0; have q1 := kc_1; omega)) (om_02e9bb08 gc_6186) (by first | assumption | (have q0 := kc_0; have q1 := kc_1; first | exact ⟨by omega, by omega⟩ | omega) | decide | (intro h; exact absurd h (by decide)))) (cwV 1 hts (wd_V wd_478 wd_479 wd_480 wd_5 (wd_c wd_481)) rfl rfl rfl dv_yX7_lay_1 ⟨Nat.le_of_ble_eq_true rfl, Nat.le_of_ble_eq_true rfl⟩) ⟨Pw.fb, recvX7 hK hP (q0 := 0) rfl, fun U hU hW => Pw.to (hP.ms _ hMs) (hD.ms _ hMs) (hK.ms [false, false, true, false, true] rfl) hE hS hFc hU hW⟩ rfl rfl hl.1 rfl (lv_room (Nat.le_of_ble_eq_true rfl)) dX7_innerLine_218 ⟨Nat.le_of_ble_eq_true rfl, Nat.le_of_ble_eq_true rfl⟩) hS (fun q _ h => hFc q h) hFc (fun u t H locs ht hvm hw hB hz1 hk1 hS => ?_)
            refine ex_1_2 hB (fun f_6189 e_f_6189_0 e_f_6189_1 hB => ?_)
            obtain ⟨hP, hD⟩ := Bw.goN (ws' := [(oc7 oM iM_thrown rM_tape iM_taped iM_size z_6172 z_6173 z_6174 z_6175 z_6176 z_6177 z_6178 iM_trouble rM_letters z_6179 iM_hasCourt rM_r rM_fresh rM_told rM_read rM_st rM_undone rM_kept iM_undos iM_images rM_fresher x_6166 iM_scale iM_night rM_heardRow rM_cutRow iM_breaths iM_cutMany iM_allBreaths rM_trial rM_words iM_fewestBreaths iM_orderMany iM_orderSum iM_leastOrder rM_often iM_setMany iM_someOf iM_allOf iM_allWeight iM_enoughWeight iM_worthSum iM_firstRest iM_leastDrawn), (arI rM_tape kM_tape 900 fM_tape), (arI rM_letters kM_letters 8 f_6180), (arI rM_fresh kM_fresh 287 f_6189), (arI rM_read kM_read 90 f_6182), (arI rM_fresher kM_fresher 8 f_6168)]) hB rfl ht hP hD _ hMs hk1 hFc rfl
            clear hz1 hk1 hvm ht hB hMs
            have o2_f_6189 : (f_6189 2).toInt = (f_6188 2).toInt := by rw [(e_f_6189_0).2.2.1 2 (by decide) (by decide) (by have q1 := ti_cl (x := f_6188 1) rfl (by omega); omega)]
            have o7_f_6189 : (f_6189 7).toInt = (f_6188 7).toInt := by rw [(e_f_6189_0).2.2.1 7 (by decide) (by decide) (by have q1 := ti_cl (x := f_6188 1) rfl (by omega); omega)]
            have o8_f_6189 : (f_6189 8).toInt = (f_6188 8).toInt := by rw [(e_f_6189_0).2.2.1 8 (by decide) (by decide) (by have q1 := ti_cl (x := f_6188 1) rfl (by omega); omega)]
            have hG := hG.trans (lt_eq e_f_6189_1.symm)
            refine lv_aload_n hx hb dX7_innerLine_221 rfl (lv_at hl 3 rfl) ?_
            refine va_get (D := (dC, dI)) (ci := 7) (v := .ref rM_fresh) (C := RX7) (T := TX7) (N := 48) hx hb hts inX7 hown hK hP 0 rfl rfl 16 (by decide) (hts _ wd_156) (fun _ h9 => h9) rfl dX7_innerLine_222 ?_
            refine lv_bipush (v := 7) hx hb dX7_innerLine_225 (by decide) ?_
            refine lv_dup2_11 hx hb dX7_innerLine_227 rfl rfl ?_
            refine va_iald hx hb hK hP 3 2 rfl rfl (by unfold vp_in; decide) dX7_innerLine_228 ?_
            refine lv_topi (fun x_6190 ex_6190 => ?_)
            have hG := hG.trans (lt_eq ex_6190)
            have cx_6190 : (f_6189 7).toInt = x_6190.toInt := congrArg Int32.toInt (show f_6189 7 = x_6190 from ex_6190.symm)
            refine lv_iconst (v := 1) hx hb dX7_innerLine_229 (by decide) ?_
            refine lv_iadd hx hb dX7_innerLine_230 ?_
            refine lv_topi (fun x_6191 ex_6191 => ?_)
            have hG := hG.trans (lt_eq ex_6191)
            have vx_6191 : x_6191.toInt = x_6190.toInt + 1 := by have q := ti_add ex_6191 rfl kc_1 (by omega) (by omega); omega
            refine va_iast hx hb hK hP hD hS 3 2 rfl rfl (by unfold vp_in; decide) dX7_innerLine_231 (fun H locs hP hD hS => ?_)
            obtain ⟨f_6192, ef_6192⟩ : ∃ g : Nat → Int32, g = upd f_6189 (7 : Int32).toNatClampNeg x_6191 := ⟨_, rfl⟩
            rw [← ef_6192] at hP hD
            have hG := hG.trans (lt_eq ef_6192)
            obtain ⟨hP, hD⟩ := wl2 (ws' := [(oc7 oM iM_thrown rM_tape iM_taped iM_size z_6172 z_6173 z_6174 z_6175 z_6176 z_6177 z_6178 iM_trouble rM_letters z_6179 iM_hasCourt rM_r rM_fresh rM_told rM_read rM_st rM_undone rM_kept iM_undos iM_images rM_fresher x_6166 iM_scale iM_night rM_heardRow rM_cutRow iM_breaths iM_cutMany iM_allBreaths rM_trial rM_words iM_fewestBreaths iM_orderMany iM_orderSum iM_leastOrder rM_often iM_setMany iM_someOf iM_allOf iM_allWeight iM_enoughWeight iM_worthSum iM_firstRest iM_leastDrawn), (arI rM_tape kM_tape 900 fM_tape), (arI rM_letters kM_letters 8 f_6180), (arI rM_fresh kM_fresh 287 f_6192), (arI rM_read kM_read 90 f_6182), (arI rM_fresher kM_fresher 8 f_6168)]) hP hD rfl
            have o8_f_6192 : (f_6192 8).toInt = (f_6189 8).toInt := put_at ef_6192 (by decide)
            refine lv_aload_n hx hb dX7_innerLine_232 rfl (lv_at hl 3 rfl) ?_
            refine va_get (D := (dC, dI)) (ci := 7) (v := .ref rM_fresh) (C := RX7) (T := TX7) (N := 48) hx hb hts inX7 hown hK hP 0 rfl rfl 16 (by decide) (hts _ wd_156) (fun _ h9 => h9) rfl dX7_innerLine_233 ?_
            refine lv_bipush (v := 8) hx hb dX7_innerLine_236 (by decide) ?_
            refine lv_dup2_11 hx hb dX7_innerLine_238 rfl rfl ?_
            refine va_iald hx hb hK hP 3 2 rfl rfl (by unfold vp_in; decide) dX7_innerLine_239 ?_
            refine lv_topi (fun x_6193 ex_6193 => ?_)
            have hG := hG.trans (lt_eq ex_6193)
            have rg_x_6193 := fb_rng x_6193
            have cx_6193 : (f_6192 8).toInt = x_6193.toInt := congrArg Int32.toInt (show f_6192 8 = x_6193 from ex_6193.symm)
            refine lv_iload_n hx hb dX7_innerLine_240 rfl (lv_at hl 4 rfl) ?_
            refine lv_iconst (v := 3) hx hb dX7_innerLine_241 (by decide) ?_
            refine lv_icmp_ne (tgt := 249) hx hb dX7_innerLine_242 (by decide) (fun c_6194 => ?_) (fun c_6194 => ?_)
            · skip
              have hG := hG.trans (if_neg c_6194)
              have gc_6194 := ti_ne c_6194 rfl kc_3
              replace gc_6194 : p0.toInt + (-2) ≤ 0 := by omega
              clear hic
              refine lv_iconst (v := 0) hx hb dX7_innerLine_249 (by decide) ?_
              refine lv_iadd hx hb dX7_innerLine_250 ?_
              refine lv_topi (fun x_6195 ex_6195 => ?_)
              have hG := hG.trans (lt_eq ex_6195)
              have vx_6195 : x_6195.toInt = x_6193.toInt := om_75165550 (ti_add ex_6195 rfl kc_0 (om_c271ee95 rg_x_6193.1) (om_1979830f rg_x_6193.2))
              refine va_iast hx hb hK hP hD hS 3 2 rfl rfl (by unfold vp_in; decide) dX7_innerLine_251 (fun H locs hP hD hS => ?_)
              obtain ⟨f_6196, ef_6196⟩ : ∃ g : Nat → Int32, g = upd f_6192 (8 : Int32).toNatClampNeg x_6195 := ⟨_, rfl⟩
              rw [← ef_6196] at hP hD
              have hG := hG.trans (lt_eq ef_6196)
              obtain ⟨hP, hD⟩ := wl2 (ws' := [(oc7 oM iM_thrown rM_tape iM_taped iM_size z_6172 z_6173 z_6174 z_6175 z_6176 z_6177 z_6178 iM_trouble rM_letters z_6179 iM_hasCourt rM_r rM_fresh rM_told rM_read rM_st rM_undone rM_kept iM_undos iM_images rM_fresher x_6166 iM_scale iM_night rM_heardRow rM_cutRow iM_breaths iM_cutMany iM_allBreaths rM_trial rM_words iM_fewestBreaths iM_orderMany iM_orderSum iM_leastOrder rM_often iM_setMany iM_someOf iM_allOf iM_allWeight iM_enoughWeight iM_worthSum iM_firstRest iM_leastDrawn), (arI rM_tape kM_tape 900 fM_tape), (arI rM_letters kM_letters 8 f_6180), (arI rM_fresh kM_fresh 287 f_6196), (arI rM_read kM_read 90 f_6182), (arI rM_fresher kM_fresher 8 f_6168)]) hP hD rfl
              have pk_f_6196 : POk f_6196 f_6182 := POk.inner (f := f_6181) (m := z_6170.toNatClampNeg) hi2_n_6183 ef_6188 (by have q9 := ti_cl (x := x_6187) vx_6187 (by omega); have q2 := ti_cl (x := f_6181 1) rfl (by omega); omega) (by have q3 := ti_cl (x := z_6170) rfl (om_83bd56b0 hi0_n_6183.1); omega) (by have q3 := ti_cl (x := z_6170) rfl (om_83bd56b0 hi0_n_6183.1); omega) (by have q3 := ti_cl (x := z_6170) rfl (om_83bd56b0 hi0_n_6183.1); omega) e_f_6189_0 (by omega) ef_6192 rfl (by have q := vx_6191; omega) ef_6196 rfl (by have q := vx_6195; have q0 := kc_0; have q1 := kc_1; first | (rw [if_pos (by omega)]; omega) | (rw [if_neg (by omega)]; omega)) (by omega) (fun h9 => by omega) hi3_n_6183
              have pl_f_6196 := pk_f_6196.lins
              exact wq_v hx hb hr 0 trivial (fun t ht hW => ⟨z_6172, z_6173, z_6174, z_6175, z_6176, z_6177, z_6178, z_6179, x_6166, f_6180, f_6196, f_6182, f_6168, b_z_6173, b_z_6176, b_z_6179, (by first | assumption | (have q0 := kc_0; have q1 := kc_1; omega)), hi6_n_6183, (by first | assumption | (have q0 := kc_0; have q1 := kc_1; omega)), (fun h9 => by have q0 := kc_0; have q1 := kc_1; have q9 := hi8_n_6183 (by omega); omega), (by first | assumption | (have q0 := kc_0; have q1 := kc_1; omega)), hG, Bw.to hP hD hK ht hW⟩) hS dX7_innerLine_252 hlocks
            · skip
              have hG := hG.trans (if_pos c_6194)
              have gc_6194 := ti_eq c_6194 rfl kc_3
              have h_6197 := hic (by omega)
              clear hic
              refine lv_iconst (v := 1) hx hb dX7_innerLine_245 (by decide) ?_
              refine lv_goto (tgt := 250) hx hb dX7_innerLine_246 (by decide) ?_
              refine lv_iadd hx hb dX7_innerLine_250 ?_
              refine lv_topi (fun x_6198 ex_6198 => ?_)
              have hG := hG.trans (lt_eq ex_6198)
              have vx_6198 : x_6198.toInt = x_6193.toInt + 1 := by have q := ti_add ex_6198 rfl kc_1 (by omega) (by omega); omega
              refine va_iast hx hb hK hP hD hS 3 2 rfl rfl (by unfold vp_in; decide) dX7_innerLine_251 (fun H locs hP hD hS => ?_)
              obtain ⟨f_6199, ef_6199⟩ : ∃ g : Nat → Int32, g = upd f_6192 (8 : Int32).toNatClampNeg x_6198 := ⟨_, rfl⟩
              rw [← ef_6199] at hP hD
              have hG := hG.trans (lt_eq ef_6199)
              obtain ⟨hP, hD⟩ := wl2 (ws' := [(oc7 oM iM_thrown rM_tape iM_taped iM_size z_6172 z_6173 z_6174 z_6175 z_6176 z_6177 z_6178 iM_trouble rM_letters z_6179 iM_hasCourt rM_r rM_fresh rM_told rM_read rM_st rM_undone rM_kept iM_undos iM_images rM_fresher x_6166 iM_scale iM_night rM_heardRow rM_cutRow iM_breaths iM_cutMany iM_allBreaths rM_trial rM_words iM_fewestBreaths iM_orderMany iM_orderSum iM_leastOrder rM_often iM_setMany iM_someOf iM_allOf iM_allWeight iM_enoughWeight iM_worthSum iM_firstRest iM_leastDrawn), (arI rM_tape kM_tape 900 fM_tape), (arI rM_letters kM_letters 8 f_6180), (arI rM_fresh kM_fresh 287 f_6199), (arI rM_read kM_read 90 f_6182), (arI rM_fresher kM_fresher 8 f_6168)]) hP hD rfl
              have pk_f_6199 : POk f_6199 f_6182 := POk.inner (f := f_6181) (m := z_6170.toNatClampNeg) hi2_n_6183 ef_6188 (by have q9 := ti_cl (x := x_6187) vx_6187 (by omega); have q2 := ti_cl (x := f_6181 1) rfl (by omega); omega) (by have q3 := ti_cl (x := z_6170) rfl (om_83bd56b0 hi0_n_6183.1); omega) (by have q3 := ti_cl (x := z_6170) rfl (om_83bd56b0 hi0_n_6183.1); omega) (by have q3 := ti_cl (x := z_6170) rfl (om_83bd56b0 hi0_n_6183.1); omega) e_f_6189_0 (by omega) ef_6192 rfl (by have q := vx_6191; omega) ef_6199 rfl (by have q := vx_6198; have q0 := kc_0; have q1 := kc_1; first | (rw [if_pos (by omega)]; omega) | (rw [if_neg (by omega)]; omega)) (by omega) (fun h9 => by omega) hi3_n_6183
              have pl_f_6199 := pk_f_6199.lins
              exact wq_v hx hb hr 0 trivial (fun t ht hW => ⟨z_6172, z_6173, z_6174, z_6175, z_6176, z_6177, z_6178, z_6179, x_6166, f_6180, f_6199, f_6182, f_6168, b_z_6173, b_z_6176, b_z_6179, (by first | assumption | (have q0 := kc_0; have q1 := kc_1; omega)), hi6_n_6183, (by first | assumption | (have q0 := kc_0; have q1 := kc_1; omega)), (fun h9 => by have q0 := kc_0; have q1 := kc_1; have q9 := hi8_n_6183 (by omega); omega), (by first | assumption | (have q0 := kc_0; have q1 := kc_1; omega)), hG, Bw.to hP hD hK ht hW⟩) hS dX7_innerLine_252 hlocks
          · skip
            have hG := hG.trans (if_neg c_6186)
            have gc_6186 := ti_ne c_6186 rfl kc_0
            replace gc_6186 : (-1) * z_6179.toInt + 1 ≤ 0 := by omega
            exact wq_v hx hb hr 0 trivial (fun t ht hW => ⟨z_6172, z_6173, z_6174, z_6175, z_6176, z_6177, z_6178, z_6179, x_6166, f_6180, f_6181, f_6182, f_6168, b_z_6173, b_z_6176, b_z_6179, (by first | assumption | (have q0 := kc_0; have q1 := kc_1; omega)), hi6_n_6183, (by first | assumption | (have q0 := kc_0; have q1 := kc_1; omega)), (fun h9 => by have q0 := kc_0; have q1 := kc_1; omega), (by first | assumption | (have q0 := kc_0; have q1 := kc_1; omega)), hG, Bw.to hP hD hK ht hW⟩) hS dX7_innerLine_205 hlocks
        · skip
          have hG := hG.trans (if_neg c_6184)
          have gc_6184 := ti_ne c_6184 rfl kc_0
          replace gc_6184 : (-1) * z_6171.toInt + 1 ≤ 0 := by omega
          clear hi5_n_6183
          refine lv_aload_n hx hb dX7_innerLine_29 rfl (lv_at hl 3 rfl) ?_
          refine va_get (D := (dC, dI)) (ci := 7) (v := .int z_6179) (C := RX7) (T := TX7) (N := 48) hx hb hts inX7 hown hK hP 0 rfl rfl 13 (by decide) (hts _ wd_380) (fun _ h9 => h9) rfl dX7_innerLine_30 ?_
          refine lv_if_ne (tgt := 198) hx hb dX7_innerLine_33 (by decide) (fun c_6200 => ?_) (fun c_6200 => ?_)
          · skip
            have hG := hG.trans (if_neg c_6200)
            have gc_6200 := ti_ne c_6200 rfl kc_0
            replace gc_6200 : (-1) * z_6179.toInt + 1 ≤ 0 := by omega
            refine lv_aload_n hx hb dX7_innerLine_198 rfl (lv_at hl 3 rfl) ?_
            refine va_get (D := (dC, dI)) (ci := 7) (v := .int z_6179) (C := RX7) (T := TX7) (N := 48) hx hb hts inX7 hown hK hP 0 rfl rfl 13 (by decide) (hts _ wd_380) (fun _ h9 => h9) rfl dX7_innerLine_199 ?_
            refine lv_if_eq (tgt := 206) hx hb dX7_innerLine_202 (by decide) (fun c_6201 => ?_) (fun c_6201 => ?_)
            · skip
              have hG := hG.trans (if_pos c_6201)
              have gc_6201 := ti_eq c_6201 rfl kc_0
              exfalso; clear hG; omega
            · skip
              have hG := hG.trans (if_neg c_6201)
              have gc_6201 := ti_ne c_6201 rfl kc_0
              replace gc_6201 : (-1) * z_6179.toInt + 1 ≤ 0 := by omega
              exact wq_v hx hb hr 0 trivial (fun t ht hW => ⟨z_6172, z_6173, z_6174, z_6175, z_6176, z_6177, z_6178, z_6179, x_6166, f_6180, f_6181, f_6182, f_6168, b_z_6173, b_z_6176, b_z_6179, (by first | assumption | (have q0 := kc_0; have q1 := kc_1; omega)), hi6_n_6183, (by first | assumption | (have q0 := kc_0; have q1 := kc_1; omega)), (fun h9 => by have q0 := kc_0; have q1 := kc_1; omega), (by first | assumption | (have q0 := kc_0; have q1 := kc_1; omega)), hG, Bw.to hP hD hK ht hW⟩) hS dX7_innerLine_205 hlocks
          · skip
            have hG := hG.trans (if_pos c_6200)
            have gc_6200 := ti_eq c_6200 rfl kc_0
            refine lv_aload_n hx hb dX7_innerLine_36 rfl (lv_at hl 3 rfl) ?_
            have hMs := ml_of hD [true, false, true, true, true, false] (wc := [(oc7 oM iM_thrown rM_tape iM_taped iM_size z_6172 z_6173 z_6174 z_6175 z_6176 z_6177 z_6178 iM_trouble rM_letters z_6179 iM_hasCourt rM_r rM_fresh rM_told rM_read rM_st rM_undone rM_kept iM_undos iM_images rM_fresher x_6166 iM_scale iM_night rM_heardRow rM_cutRow iM_breaths iM_cutMany iM_allBreaths rM_trial rM_words iM_fewestBreaths iM_orderMany iM_orderSum iM_leastOrder rM_often iM_setMany iM_someOf iM_allOf iM_allWeight iM_enoughWeight iM_worthSum iM_firstRest iM_leastDrawn), (arI rM_letters kM_letters 8 f_6180), (arI rM_fresh kM_fresh 287 f_6181), (arI rM_read kM_read 90 f_6182)]) rfl
            have hFc := va_freeM hD hS hA _ hMs
            refine va_calli (va_runV (As := []) (rest := []) ⟨hx, hb, hml, hown, hts⟩ (tX7_nodeHere l dC dI _ oM iM_thrown rM_tape iM_taped iM_size z_6172 z_6173 z_6174 z_6175 z_6176 z_6177 z_6178 iM_trouble rM_letters f_6180 kM_letters z_6179 iM_hasCourt rM_r rM_fresh f_6181 kM_fresh rM_told rM_read f_6182 kM_read rM_st rM_undone rM_kept iM_undos iM_images rM_fresher x_6166 iM_scale iM_night rM_heardRow rM_cutRow iM_breaths iM_cutMany iM_allBreaths rM_trial rM_words iM_fewestBreaths iM_orderMany iM_orderSum iM_leastOrder rM_often iM_setMany iM_someOf iM_allOf iM_allWeight iM_enoughWeight iM_worthSum iM_firstRest iM_leastDrawn b_iM_taped b_iM_size b_z_6173 b_z_6176 b_z_6179 b_iM_hasCourt b_iM_undos b_iM_images b_iM_scale b_iM_breaths b_iM_cutMany (by first | assumption | exact (fun h9 => by have q0 := kc_0; have q1 := kc_1; omega)) (by assumption)) (cwV 0 hts (wd_V wd_486 wd_487 wd_488 wd_5 (wd_c wd_489)) rfl rfl rfl dv_yX7_nodeHere_0 ⟨Nat.le_of_ble_eq_true rfl, Nat.le_of_ble_eq_true rfl⟩) ⟨Pw.fb, recvX7 hK hP (q0 := 0) rfl, fun U hU hW => Pw.to (hP.ms _ hMs) (hD.ms _ hMs) (hK.ms [false, true, true, true, false] rfl) hE hS hFc hU hW⟩ rfl rfl hl.1 rfl (lv_room (Nat.le_of_ble_eq_true rfl)) dX7_innerLine_37 ⟨Nat.le_of_ble_eq_true rfl, Nat.le_of_ble_eq_true rfl⟩) hS (fun q _ h => hFc q h) hFc (fun r u t H locs ht hvm hw hB hz1 hk1 hS => ?_)
            have hru9 := hw.2
            have hw := hw.1
            refine ex_3_4 hB (fun x_6202 x_6203 x_6204 b_x_6204 e_x_6202_0 e_x_6202_1 e_x_6202_2 hB => ?_)
            obtain ⟨hP, hD⟩ := Bw.goN (ws' := [(oc7 oM iM_thrown rM_tape iM_taped iM_size z_6172 z_6173 z_6174 z_6175 z_6176 x_6202 x_6203 iM_trouble rM_letters x_6204 iM_hasCourt rM_r rM_fresh rM_told rM_read rM_st rM_undone rM_kept iM_undos iM_images rM_fresher x_6166 iM_scale iM_night rM_heardRow rM_cutRow iM_breaths iM_cutMany iM_allBreaths rM_trial rM_words iM_fewestBreaths iM_orderMany iM_orderSum iM_leastOrder rM_often iM_setMany iM_someOf iM_allOf iM_allWeight iM_enoughWeight iM_worthSum iM_firstRest iM_leastDrawn), (arI rM_tape kM_tape 900 fM_tape), (arI rM_letters kM_letters 8 f_6180), (arI rM_fresh kM_fresh 287 f_6181), (arI rM_read kM_read 90 f_6182), (arI rM_fresher kM_fresher 8 f_6168)]) hB rfl ht hP hD _ hMs hk1 hFc rfl
            clear hz1 hk1 hvm ht hB hMs
            rw [← hru9] at e_x_6202_2
            obtain ⟨x_6205, rfl⟩ : ∃ z, z = r := ⟨_, rfl⟩
            have hG := hG.trans (un4_eq e_x_6202_2)
            have lx_6205 := hw.2
            have ux_6205 := hw.2
            refine lv_istore (lv' := [(5, .int x_6205), (4, .int z_6171), (3, .int z_6170), (2, .int x_6169), (0, .ref oM), (1, .int p0)]) hx hb dX7_innerLine_40 hl (by decide) rfl (fun ls hl => ?_)
            refine lv_iconst (v := 0) hx hb dX7_innerLine_42 (by decide) ?_
            refine lv_istore (lv' := [(6, .int 0), (5, .int x_6205), (4, .int z_6171), (3, .int z_6170), (2, .int x_6169), (0, .ref oM), (1, .int p0)]) hx hb dX7_innerLine_43 hl (by decide) rfl (fun ls hl => ?_)
            have hl := lv_sub hl (l' := [(6, .int 0), (5, .int x_6205), (4, .int z_6171), (3, .int z_6170), (2, .int x_6169), (0, .ref oM), (1, .int p0)]) [0, 1, 2, 3, 4, 5, 6] rfl
            have key_n_6210 : ∀ (n_6210 : Nat) (z_6206 : Int32) (z_6207 : Int32) (z_6208 : Int32) (z_6209 : Int32) (H : Heap) (locs : List Loc) (ls : Array Slot), (0 ≤ z_6207.toInt ∧ z_6207.toInt ≤ 1) → (0 ≤ z_6206.toInt ∧ z_6206.toInt ≤ z_6170.toInt) → (x_6204.toInt ≤ z_6207.toInt) → (NeI z_6207.toInt z_6206.toNatClampNeg f_6182 x_6169.toNatClampNeg x_6205.toInt) → (z_6170.toInt - z_6206.toInt).toNat < n_6210 → (PX7_innerLine fM_tape iM_size iM_at iM_end iM_token iM_whole iM_nameSize iM_fault iM_place fM_letters iM_failed fM_fresh fM_read fM_fresher iM_fresherSize p0 = HX7_innerLine_1 fM_tape iM_size p0 x_6166 f_6168 x_6169 z_6170 z_6172 z_6173 z_6174 z_6175 z_6176 f_6180 f_6181 f_6182 x_6205 (fun (z_6170 : Int32) (z_6171 : Int32) (z_6172 : Int32) (z_6173 : Int32) (z_6174 : Int32) (z_6175 : Int32) (z_6176 : Int32) (z_6177 : Int32) (z_6178 : Int32) (z_6179 : Int32) (f_6180 : Nat → Int32) (f_6181 : Nat → Int32) (f_6182 : Nat → Int32) => HX7_innerLine_0 fM_tape iM_size p0 x_6166 f_6168 x_6169 n_6183 z_6170 z_6171 z_6172 z_6173 z_6174 z_6175 z_6176 z_6177 z_6178 z_6179 f_6180 f_6181 f_6182) n_6210 z_6206 z_6207 z_6208 z_6209) → va_P (dC, dI) vwCl [(oc7 oM iM_thrown rM_tape iM_taped iM_size z_6172 z_6173 z_6174 z_6175 z_6176 z_6208 z_6209 iM_trouble rM_letters z_6207 iM_hasCourt rM_r rM_fresh rM_told rM_read rM_st rM_undone rM_kept iM_undos iM_images rM_fresher x_6166 iM_scale iM_night rM_heardRow rM_cutRow iM_breaths iM_cutMany iM_allBreaths rM_trial rM_words iM_fewestBreaths iM_orderMany iM_orderSum iM_leastOrder rM_often iM_setMany iM_someOf iM_allOf iM_allWeight iM_enoughWeight iM_worthSum iM_firstRest iM_leastDrawn), (arI rM_tape kM_tape 900 fM_tape), (arI rM_letters kM_letters 8 f_6180), (arI rM_fresh kM_fresh 287 f_6181), (arI rM_read kM_read 90 f_6182), (arI rM_fresher kM_fresher 8 f_6168)] H → va_D A [(oc7 oM iM_thrown rM_tape iM_taped iM_size z_6172 z_6173 z_6174 z_6175 z_6176 z_6208 z_6209 iM_trouble rM_letters z_6207 iM_hasCourt rM_r rM_fresh rM_told rM_read rM_st rM_undone rM_kept iM_undos iM_images rM_fresher x_6166 iM_scale iM_night rM_heardRow rM_cutRow iM_breaths iM_cutMany iM_allBreaths rM_trial rM_words iM_fewestBreaths iM_orderMany iM_orderSum iM_leastOrder rM_often iM_setMany iM_someOf iM_allOf iM_allWeight iM_enoughWeight iM_worthSum iM_firstRest iM_leastDrawn), (arI rM_tape kM_tape 900 fM_tape), (arI rM_letters kM_letters 8 f_6180), (arI rM_fresh kM_fresh 287 f_6181), (arI rM_read kM_read 90 f_6182), (arI rM_fresher kM_fresher 8 f_6168)] → va_S A s.heap H locs → lv_has ls 7 [(6, .int z_6206), (5, .int x_6205), (4, .int z_6171), (3, .int z_6170), (2, .int x_6169), (0, .ref oM), (1, .int p0)] → W p l e (headSpec (Cond.code yX7_innerLine cX7_innerLine 7 none :: wG) ({ frames := 7, cells := 0, slots := 0, locals := 175 })).room s m ([.ref oM, .int p0] : List Value).toArray below meth c H locs 0 0 (MQ below (va_Qv (fun (_ : Nat) => True) (fun (_ : Nat) (t : State) => ∃ (niM_at : Int32) (niM_end : Int32) (niM_token : Int32) (niM_whole : Int32) (niM_nameSize : Int32) (niM_fault : Int32) (niM_place : Int32) (niM_failed : Int32) (niM_fresherSize : Int32) (nfM_letters : Nat → Int32) (nfM_fresh : Nat → Int32) (nfM_read : Nat → Int32) (nfM_fresher : Nat → Int32), (0 ≤ niM_end.toInt ∧ niM_end.toInt ≤ 900) ∧ (0 ≤ niM_nameSize.toInt ∧ niM_nameSize.toInt ≤ 900) ∧ (0 ≤ niM_failed.toInt ∧ niM_failed.toInt ≤ 1) ∧ (iM_end.toInt ≤ niM_end.toInt) ∧ (ImpP (niM_token.toInt = 2) (niM_nameSize.toInt ≤ 8)) ∧ (iM_failed.toInt ≤ niM_failed.toInt) ∧ (ImpP (niM_failed.toInt ≤ 0 ∧ niM_token.toInt = 59 ) (iM_end.toInt + 1 ≤ niM_end.toInt)) ∧ (POk nfM_fresh nfM_read) ∧ (PX7_innerLine fM_tape iM_size iM_at iM_end iM_token iM_whole iM_nameSize iM_fault iM_place fM_letters iM_failed fM_fresh fM_read fM_fresher iM_fresherSize p0 = (niM_at, niM_end, niM_token, niM_whole, niM_nameSize, niM_fault, niM_place, niM_failed, niM_fresherSize, nfM_letters, nfM_fresh, nfM_read, nfM_fresher)) ∧ Bw dC dI A [(oc7 oM iM_thrown rM_tape iM_taped iM_size niM_at niM_end niM_token niM_whole niM_nameSize niM_fault niM_place iM_trouble rM_letters niM_failed iM_hasCourt rM_r rM_fresh rM_told rM_read rM_st rM_undone rM_kept iM_undos iM_images rM_fresher niM_fresherSize iM_scale iM_night rM_heardRow rM_cutRow iM_breaths iM_cutMany iM_allBreaths rM_trial rM_words iM_fewestBreaths iM_orderMany iM_orderSum iM_leastOrder rM_often iM_setMany iM_someOf iM_allOf iM_allWeight iM_enoughWeight iM_worthSum iM_firstRest iM_leastDrawn), (arI rM_tape kM_tape 900 fM_tape), (arI rM_letters kM_letters 8 nfM_letters), (arI rM_fresh kM_fresh 287 nfM_fresh), (arI rM_read kM_read 90 nfM_read), (arI rM_fresher kM_fresher 8 nfM_fresher)] [(kM_tape, .int), (kM_letters, .int), (kM_fresh, .int), (kM_read, .int), (kM_fresher, .int)] t) A) ([.ref oM, .int p0] : List Value).toArray s 0 0 A) (F0 m 45 ls []) := by
              intro n_6210
              induction n_6210 with
              | zero => intro z_6206 z_6207 z_6208 z_6209 H locs ls b_z_6207 hi0_n_6210 hi1_n_6210 hi2_n_6210 hm; exact absurd hm (Nat.not_lt_zero _)
              | succ n_6210 ih_n_6210 =>
                intro z_6206 z_6207 z_6208 z_6209 H locs ls b_z_6207 hi0_n_6210 hi1_n_6210 hi2_n_6210 hm_n_6210 hG hP hD hS hl
                have hG := hG.trans (HX7_innerLine_1_eq _ _ _ _ _ _ _ _ _ _ _ _ _ _ _ _ _ _ _ _ _ _)
                refine lv_iload hx hb dX7_innerLine_45 (lv_at hl 0 rfl) ?_
                refine lv_iload_n hx hb dX7_innerLine_47 rfl (lv_at hl 3 rfl) ?_
                refine lv_icmp_ge (tgt := 89) hx hb dX7_innerLine_48 (by decide) (fun c_6211 => ?_) (fun c_6211 => ?_)
                · skip
                  have hG := hG.trans (if_pos c_6211)
                  have gc_6211 := ti_le c_6211 rfl rfl
                  refine lv_aload_n hx hb dX7_innerLine_89 rfl (lv_at hl 5 rfl) ?_
                  refine va_get (D := (dC, dI)) (ci := 7) (v := .int z_6207) (C := RX7) (T := TX7) (N := 48) hx hb hts inX7 hown hK hP 0 rfl rfl 13 (by decide) (hts _ wd_380) (fun _ h9 => h9) rfl dX7_innerLine_90 ?_
                  refine lv_if_ne (tgt := 110) hx hb dX7_innerLine_93 (by decide) (fun c_6212 => ?_) (fun c_6212 => ?_)
                  · skip
                    have hG := hG.trans (if_neg c_6212)
                    have gc_6212 := ti_ne c_6212 rfl kc_0
                    replace gc_6212 : (-1) * z_6207.toInt + 1 ≤ 0 := by omega
                    refine lv_aload_n hx hb dX7_innerLine_110 rfl (lv_at hl 5 rfl) ?_
                    have hMs := ml_of hD [true, true, true, false, false, false] (wc := [(oc7 oM iM_thrown rM_tape iM_taped iM_size z_6172 z_6173 z_6174 z_6175 z_6176 z_6208 z_6209 iM_trouble rM_letters z_6207 iM_hasCourt rM_r rM_fresh rM_told rM_read rM_st rM_undone rM_kept iM_undos iM_images rM_fresher x_6166 iM_scale iM_night rM_heardRow rM_cutRow iM_breaths iM_cutMany iM_allBreaths rM_trial rM_words iM_fewestBreaths iM_orderMany iM_orderSum iM_leastOrder rM_often iM_setMany iM_someOf iM_allOf iM_allWeight iM_enoughWeight iM_worthSum iM_firstRest iM_leastDrawn), (arI rM_tape kM_tape 900 fM_tape), (arI rM_letters kM_letters 8 f_6180)]) rfl
                    have hFc := va_freeM hD hS hA _ hMs
                    refine va_callv (va_runV (As := []) (rest := []) ⟨hx, hb, hml, hown, hts⟩ (tX7_pass l dC dI _ oM iM_thrown rM_tape fM_tape kM_tape iM_taped iM_size z_6172 z_6173 z_6174 z_6175 z_6176 z_6208 z_6209 iM_trouble rM_letters f_6180 kM_letters z_6207 iM_hasCourt rM_r rM_fresh rM_told rM_read rM_st rM_undone rM_kept iM_undos iM_images rM_fresher x_6166 iM_scale iM_night rM_heardRow rM_cutRow iM_breaths iM_cutMany iM_allBreaths rM_trial rM_words iM_fewestBreaths iM_orderMany iM_orderSum iM_leastOrder rM_often iM_setMany iM_someOf iM_allOf iM_allWeight iM_enoughWeight iM_worthSum iM_firstRest iM_leastDrawn b_iM_taped b_iM_size b_z_6173 b_z_6176 b_z_6207 b_iM_hasCourt b_iM_undos b_iM_images b_iM_scale b_iM_breaths b_iM_cutMany (by first | assumption | exact (fun h9 => by have q0 := kc_0; have q1 := kc_1; omega))) (cwV 0 hts (wd_V wd_454 wd_455 wd_456 wd_5 (wd_c wd_457)) rfl rfl rfl dv_yX7_pass_0 ⟨Nat.le_of_ble_eq_true rfl, Nat.le_of_ble_eq_true rfl⟩) ⟨Pw.fb, recvX7 hK hP (q0 := 0) rfl, fun U hU hW => Pw.to (hP.ms _ hMs) (hD.ms _ hMs) (hK.ms [true, true, false, false, false] rfl) hE hS hFc hU hW⟩ rfl rfl hl.1 rfl (lv_room (Nat.le_of_ble_eq_true rfl)) dX7_innerLine_111 ⟨Nat.le_of_ble_eq_true rfl, Nat.le_of_ble_eq_true rfl⟩) hS (fun q _ h => hFc q h) hFc (fun u t H locs ht hvm hw hB hz1 hk1 hS => ?_)
                    refine ex_6_6 hB (fun x_6213 x_6214 x_6215 x_6216 x_6217 f_6218 b_x_6214 b_x_6217 e_x_6213_0 e_x_6213_1 e_x_6213_2 e_x_6213_3 hB => ?_)
                    obtain ⟨hP, hD⟩ := Bw.goN (ws' := [(oc7 oM iM_thrown rM_tape iM_taped iM_size x_6213 x_6214 x_6215 x_6216 x_6217 z_6208 z_6209 iM_trouble rM_letters z_6207 iM_hasCourt rM_r rM_fresh rM_told rM_read rM_st rM_undone rM_kept iM_undos iM_images rM_fresher x_6166 iM_scale iM_night rM_heardRow rM_cutRow iM_breaths iM_cutMany iM_allBreaths rM_trial rM_words iM_fewestBreaths iM_orderMany iM_orderSum iM_leastOrder rM_often iM_setMany iM_someOf iM_allOf iM_allWeight iM_enoughWeight iM_worthSum iM_firstRest iM_leastDrawn), (arI rM_tape kM_tape 900 fM_tape), (arI rM_letters kM_letters 8 f_6218), (arI rM_fresh kM_fresh 287 f_6181), (arI rM_read kM_read 90 f_6182), (arI rM_fresher kM_fresher 8 f_6168)]) hB rfl ht hP hD _ hMs hk1 hFc rfl
                    clear hz1 hk1 hvm ht hB hMs
                    have hG := hG.trans (un6_eq e_x_6213_3)
                    clear hi6_n_6183
                    clear hi8_n_6183
                    refine lv_iload_n hx hb dX7_innerLine_114 rfl (lv_at hl 6 rfl) ?_
                    refine lv_iconst (v := 3) hx hb dX7_innerLine_115 (by decide) ?_
                    refine lv_icmp_ne (tgt := 129) hx hb dX7_innerLine_116 (by decide) (fun c_6219 => ?_) (fun c_6219 => ?_)
                    · skip
                      have hG := hG.trans (if_neg c_6219)
                      have gc_6219 := ti_ne c_6219 rfl kc_3
                      replace gc_6219 : p0.toInt + (-2) ≤ 0 := by omega
                      clear hic
                      refine lv_iconst (v := 0) hx hb dX7_innerLine_129 (by decide) ?_
                      refine lv_istore (lv' := [(6, .int 0), (5, .int x_6205), (4, .int z_6171), (3, .int z_6170), (2, .int x_6169), (0, .ref oM), (1, .int p0)]) hx hb dX7_innerLine_130 hl (by decide) rfl (fun ls hl => ?_)
                      refine lv_aload_n hx hb dX7_innerLine_132 rfl (lv_at hl 5 rfl) ?_
                      refine va_get (D := (dC, dI)) (ci := 7) (v := .int z_6207) (C := RX7) (T := TX7) (N := 48) hx hb hts inX7 hown hK hP 0 rfl rfl 13 (by decide) (hts _ wd_380) (fun _ h9 => h9) rfl dX7_innerLine_133 ?_
                      refine lv_if_eq (tgt := 140) hx hb dX7_innerLine_136 (by decide) (fun c_6220 => ?_) (fun c_6220 => ?_)
                      · skip
                        have hG := hG.trans (if_pos c_6220)
                        have gc_6220 := ti_eq c_6220 rfl kc_0
                        exfalso; clear hG; omega
                      · skip
                        have hG := hG.trans (if_neg c_6220)
                        have gc_6220 := ti_ne c_6220 rfl kc_0
                        replace gc_6220 : (-1) * z_6207.toInt + 1 ≤ 0 := by omega
                        exact wq_v hx hb hr 0 trivial (fun t ht hW => ⟨x_6213, x_6214, x_6215, x_6216, x_6217, z_6208, z_6209, z_6207, x_6166, f_6218, f_6181, f_6182, f_6168, b_x_6214, b_x_6217, b_z_6207, (by first | assumption | (have q0 := kc_0; have q1 := kc_1; omega)), e_x_6213_1, (by first | assumption | (have q0 := kc_0; have q1 := kc_1; omega)), (fun h9 => by have q0 := kc_0; have q1 := kc_1; omega), (by first | assumption | (have q0 := kc_0; have q1 := kc_1; omega)), hG, Bw.to hP hD hK ht hW⟩) hS dX7_innerLine_139 hlocks
                    · skip
                      have hG := hG.trans (if_pos c_6219)
                      have gc_6219 := ti_eq c_6219 rfl kc_3
                      have h_6221 := hic (by omega)
                      clear hic
                      refine lv_aload_n hx hb dX7_innerLine_119 rfl (lv_at hl 5 rfl) ?_
                      refine lv_iconst (v := 1) hx hb dX7_innerLine_120 (by decide) ?_
                      refine lv_bipush (v := 9) hx hb dX7_innerLine_121 (by decide) ?_
                      have hMs := ml_of hD [true, true, true, false, false, false] (wc := [(oc7 oM iM_thrown rM_tape iM_taped iM_size x_6213 x_6214 x_6215 x_6216 x_6217 z_6208 z_6209 iM_trouble rM_letters z_6207 iM_hasCourt rM_r rM_fresh rM_told rM_read rM_st rM_undone rM_kept iM_undos iM_images rM_fresher x_6166 iM_scale iM_night rM_heardRow rM_cutRow iM_breaths iM_cutMany iM_allBreaths rM_trial rM_words iM_fewestBreaths iM_orderMany iM_orderSum iM_leastOrder rM_often iM_setMany iM_someOf iM_allOf iM_allWeight iM_enoughWeight iM_worthSum iM_firstRest iM_leastDrawn), (arI rM_tape kM_tape 900 fM_tape), (arI rM_letters kM_letters 8 f_6218)]) rfl
                      have hFc := va_freeM hD hS hA _ hMs
                      refine va_calli (va_runV (As := [.int 1, .int 9]) (rest := []) ⟨hx, hb, hml, hown, hts⟩ (tX7_number l dC dI _ oM iM_thrown rM_tape fM_tape kM_tape iM_taped iM_size x_6213 x_6214 x_6215 x_6216 x_6217 z_6208 z_6209 iM_trouble rM_letters f_6218 kM_letters z_6207 iM_hasCourt rM_r rM_fresh rM_told rM_read rM_st rM_undone rM_kept iM_undos iM_images rM_fresher x_6166 iM_scale iM_night rM_heardRow rM_cutRow iM_breaths iM_cutMany iM_allBreaths rM_trial rM_words iM_fewestBreaths iM_orderMany iM_orderSum iM_leastOrder rM_often iM_setMany iM_someOf iM_allOf iM_allWeight iM_enoughWeight iM_worthSum iM_firstRest iM_leastDrawn 1 9 b_iM_taped b_iM_size b_x_6214 b_x_6217 b_z_6207 b_iM_hasCourt b_iM_undos b_iM_images b_iM_scale b_iM_breaths b_iM_cutMany (by first | assumption | exact (fun h9 => by have q0 := kc_0; have q1 := kc_1; omega)) (om_dc317686 kc_1 kc_9)) (cwV 2 hts (wd_V wd_446 wd_447 wd_448 wd_5 (wd_c wd_449)) rfl rfl rfl dv_yX7_number_2 ⟨Nat.le_of_ble_eq_true rfl, Nat.le_of_ble_eq_true rfl⟩) ⟨Pw.fb, recvX7 hK hP (q0 := 0) rfl, fun U hU hW => Pw.to (hP.ms _ hMs) (hD.ms _ hMs) (hK.ms [true, true, false, false, false] rfl) hE hS hFc hU hW⟩ rfl rfl hl.1 rfl (lv_room (Nat.le_of_ble_eq_true rfl)) dX7_innerLine_123 ⟨Nat.le_of_ble_eq_true rfl, Nat.le_of_ble_eq_true rfl⟩) hS (fun q _ h => hFc q h) hFc (fun r u t H locs ht hvm hw hB hz1 hk1 hS => ?_)
                      have hru9 := hw.2
                      have hw := hw.1
                      refine ex_9_8 hB (fun x_6222 x_6223 x_6224 x_6225 x_6226 x_6227 x_6228 x_6229 f_6230 b_x_6223 b_x_6226 b_x_6229 e_x_6222_0 e_x_6222_1 e_x_6222_2 e_x_6222_3 e_x_6222_4 hB => ?_)
                      obtain ⟨hP, hD⟩ := Bw.goN (ws' := [(oc7 oM iM_thrown rM_tape iM_taped iM_size x_6222 x_6223 x_6224 x_6225 x_6226 x_6227 x_6228 iM_trouble rM_letters x_6229 iM_hasCourt rM_r rM_fresh rM_told rM_read rM_st rM_undone rM_kept iM_undos iM_images rM_fresher x_6166 iM_scale iM_night rM_heardRow rM_cutRow iM_breaths iM_cutMany iM_allBreaths rM_trial rM_words iM_fewestBreaths iM_orderMany iM_orderSum iM_leastOrder rM_often iM_setMany iM_someOf iM_allOf iM_allWeight iM_enoughWeight iM_worthSum iM_firstRest iM_leastDrawn), (arI rM_tape kM_tape 900 fM_tape), (arI rM_letters kM_letters 8 f_6230), (arI rM_fresh kM_fresh 287 f_6181), (arI rM_read kM_read 90 f_6182), (arI rM_fresher kM_fresher 8 f_6168)]) hB rfl ht hP hD _ hMs hk1 hFc rfl
                      clear hz1 hk1 hvm ht hB hMs
                      rw [← hru9] at e_x_6222_4
                      obtain ⟨x_6231, rfl⟩ : ∃ z, z = r := ⟨_, rfl⟩
                      have hG := hG.trans (un10_eq e_x_6222_4)
                      have lx_6231 := hw.2
                      have kl_1 := kc_1
                      have kl_9 := kc_9
                      clear e_x_6213_1
                      clear e_x_6213_2
                      refine lv_goto (tgt := 130) hx hb dX7_innerLine_126 (by decide) ?_
                      refine lv_istore (lv' := [(6, .int x_6231), (5, .int x_6205), (4, .int z_6171), (3, .int z_6170), (2, .int x_6169), (0, .ref oM), (1, .int p0)]) hx hb dX7_innerLine_130 hl (by decide) rfl (fun ls hl => ?_)
                      refine lv_aload_n hx hb dX7_innerLine_132 rfl (lv_at hl 5 rfl) ?_
                      refine va_get (D := (dC, dI)) (ci := 7) (v := .int x_6229) (C := RX7) (T := TX7) (N := 48) hx hb hts inX7 hown hK hP 0 rfl rfl 13 (by decide) (hts _ wd_380) (fun _ h9 => h9) rfl dX7_innerLine_133 ?_
                      refine lv_if_eq (tgt := 140) hx hb dX7_innerLine_136 (by decide) (fun c_6232 => ?_) (fun c_6232 => ?_)
                      · skip
                        have hG := hG.trans (if_pos c_6232)
                        have gc_6232 := ti_eq c_6232 rfl kc_0
                        exfalso; clear hG; omega
                      · skip
                        have hG := hG.trans (if_neg c_6232)
                        have gc_6232 := ti_ne c_6232 rfl kc_0
                        replace gc_6232 : (-1) * x_6229.toInt + 1 ≤ 0 := by omega
                        exact wq_v hx hb hr 0 trivial (fun t ht hW => ⟨x_6222, x_6223, x_6224, x_6225, x_6226, x_6227, x_6228, x_6229, x_6166, f_6230, f_6181, f_6182, f_6168, b_x_6223, b_x_6226, b_x_6229, (by first | assumption | (have q0 := kc_0; have q1 := kc_1; omega)), e_x_6222_1, (by first | assumption | (have q0 := kc_0; have q1 := kc_1; omega)), (fun h9 => by have q0 := kc_0; have q1 := kc_1; omega), (by first | assumption | (have q0 := kc_0; have q1 := kc_1; omega)), hG, Bw.to hP hD hK ht hW⟩) hS dX7_innerLine_139 hlocks
                  · skip
                    have hG := hG.trans (if_pos c_6212)
                    have gc_6212 := ti_eq c_6212 rfl kc_0
                    have h_6233 := e_x_6202_1 (by omega)
                    clear e_x_6202_1
                    have h_6234 := lx_6205.2.1 (by omega)
                    refine lv_iload_n hx hb dX7_innerLine_96 rfl (lv_at hl 3 rfl) ?_
                    refine lv_iconst (v := 4) hx hb dX7_innerLine_97 (by decide) ?_
                    refine lv_icmp_ne (tgt := 110) hx hb dX7_innerLine_98 (by decide) (fun c_6235 => ?_) (fun c_6235 => ?_)
                    · skip
                      have hG := hG.trans (if_neg c_6235)
                      have gc_6235 := ti_ne c_6235 rfl kc_4
                      replace gc_6235 : z_6170.toInt + (-3) ≤ 0 := by omega
                      refine lv_aload_n hx hb dX7_innerLine_110 rfl (lv_at hl 5 rfl) ?_
                      have hMs := ml_of hD [true, true, true, false, false, false] (wc := [(oc7 oM iM_thrown rM_tape iM_taped iM_size z_6172 z_6173 z_6174 z_6175 z_6176 z_6208 z_6209 iM_trouble rM_letters z_6207 iM_hasCourt rM_r rM_fresh rM_told rM_read rM_st rM_undone rM_kept iM_undos iM_images rM_fresher x_6166 iM_scale iM_night rM_heardRow rM_cutRow iM_breaths iM_cutMany iM_allBreaths rM_trial rM_words iM_fewestBreaths iM_orderMany iM_orderSum iM_leastOrder rM_often iM_setMany iM_someOf iM_allOf iM_allWeight iM_enoughWeight iM_worthSum iM_firstRest iM_leastDrawn), (arI rM_tape kM_tape 900 fM_tape), (arI rM_letters kM_letters 8 f_6180)]) rfl
                      have hFc := va_freeM hD hS hA _ hMs
                      refine va_callv (va_runV (As := []) (rest := []) ⟨hx, hb, hml, hown, hts⟩ (tX7_pass l dC dI _ oM iM_thrown rM_tape fM_tape kM_tape iM_taped iM_size z_6172 z_6173 z_6174 z_6175 z_6176 z_6208 z_6209 iM_trouble rM_letters f_6180 kM_letters z_6207 iM_hasCourt rM_r rM_fresh rM_told rM_read rM_st rM_undone rM_kept iM_undos iM_images rM_fresher x_6166 iM_scale iM_night rM_heardRow rM_cutRow iM_breaths iM_cutMany iM_allBreaths rM_trial rM_words iM_fewestBreaths iM_orderMany iM_orderSum iM_leastOrder rM_often iM_setMany iM_someOf iM_allOf iM_allWeight iM_enoughWeight iM_worthSum iM_firstRest iM_leastDrawn b_iM_taped b_iM_size b_z_6173 b_z_6176 b_z_6207 b_iM_hasCourt b_iM_undos b_iM_images b_iM_scale b_iM_breaths b_iM_cutMany (by first | assumption | exact (fun h9 => by have q0 := kc_0; have q1 := kc_1; omega))) (cwV 0 hts (wd_V wd_454 wd_455 wd_456 wd_5 (wd_c wd_457)) rfl rfl rfl dv_yX7_pass_0 ⟨Nat.le_of_ble_eq_true rfl, Nat.le_of_ble_eq_true rfl⟩) ⟨Pw.fb, recvX7 hK hP (q0 := 0) rfl, fun U hU hW => Pw.to (hP.ms _ hMs) (hD.ms _ hMs) (hK.ms [true, true, false, false, false] rfl) hE hS hFc hU hW⟩ rfl rfl hl.1 rfl (lv_room (Nat.le_of_ble_eq_true rfl)) dX7_innerLine_111 ⟨Nat.le_of_ble_eq_true rfl, Nat.le_of_ble_eq_true rfl⟩) hS (fun q _ h => hFc q h) hFc (fun u t H locs ht hvm hw hB hz1 hk1 hS => ?_)
                      refine ex_6_6 hB (fun x_6236 x_6237 x_6238 x_6239 x_6240 f_6241 b_x_6237 b_x_6240 e_x_6236_0 e_x_6236_1 e_x_6236_2 e_x_6236_3 hB => ?_)
                      obtain ⟨hP, hD⟩ := Bw.goN (ws' := [(oc7 oM iM_thrown rM_tape iM_taped iM_size x_6236 x_6237 x_6238 x_6239 x_6240 z_6208 z_6209 iM_trouble rM_letters z_6207 iM_hasCourt rM_r rM_fresh rM_told rM_read rM_st rM_undone rM_kept iM_undos iM_images rM_fresher x_6166 iM_scale iM_night rM_heardRow rM_cutRow iM_breaths iM_cutMany iM_allBreaths rM_trial rM_words iM_fewestBreaths iM_orderMany iM_orderSum iM_leastOrder rM_often iM_setMany iM_someOf iM_allOf iM_allWeight iM_enoughWeight iM_worthSum iM_firstRest iM_leastDrawn), (arI rM_tape kM_tape 900 fM_tape), (arI rM_letters kM_letters 8 f_6241), (arI rM_fresh kM_fresh 287 f_6181), (arI rM_read kM_read 90 f_6182), (arI rM_fresher kM_fresher 8 f_6168)]) hB rfl ht hP hD _ hMs hk1 hFc rfl
                      clear hz1 hk1 hvm ht hB hMs
                      have hG := hG.trans (un6_eq e_x_6236_3)
                      clear hi6_n_6183
                      clear hi8_n_6183
                      refine lv_iload_n hx hb dX7_innerLine_114 rfl (lv_at hl 6 rfl) ?_
                      refine lv_iconst (v := 3) hx hb dX7_innerLine_115 (by decide) ?_
                      refine lv_icmp_ne (tgt := 129) hx hb dX7_innerLine_116 (by decide) (fun c_6242 => ?_) (fun c_6242 => ?_)
                      · skip
                        have hG := hG.trans (if_neg c_6242)
                        have gc_6242 := ti_ne c_6242 rfl kc_3
                        replace gc_6242 : p0.toInt + (-2) ≤ 0 := by omega
                        clear hic
                        refine lv_iconst (v := 0) hx hb dX7_innerLine_129 (by decide) ?_
                        refine lv_istore (lv' := [(6, .int 0), (5, .int x_6205), (4, .int z_6171), (3, .int z_6170), (2, .int x_6169), (0, .ref oM), (1, .int p0)]) hx hb dX7_innerLine_130 hl (by decide) rfl (fun ls hl => ?_)
                        refine lv_aload_n hx hb dX7_innerLine_132 rfl (lv_at hl 5 rfl) ?_
                        refine va_get (D := (dC, dI)) (ci := 7) (v := .int z_6207) (C := RX7) (T := TX7) (N := 48) hx hb hts inX7 hown hK hP 0 rfl rfl 13 (by decide) (hts _ wd_380) (fun _ h9 => h9) rfl dX7_innerLine_133 ?_
                        refine lv_if_eq (tgt := 140) hx hb dX7_innerLine_136 (by decide) (fun c_6243 => ?_) (fun c_6243 => ?_)
                        · skip
                          have hG := hG.trans (if_pos c_6243)
                          have gc_6243 := ti_eq c_6243 rfl kc_0
                          refine lv_aload_n hx hb dX7_innerLine_140 rfl (lv_at hl 5 rfl) ?_
                          refine va_get (D := (dC, dI)) (ci := 7) (v := .ref rM_read) (C := RX7) (T := TX7) (N := 48) hx hb hts inX7 hown hK hP 0 rfl rfl 18 (by decide) (hts _ wd_158) (fun _ h9 => h9) rfl dX7_innerLine_141 ?_
                          refine lv_iconst (v := 4) hx hb dX7_innerLine_144 (by decide) ?_
                          refine lv_iload_n hx hb dX7_innerLine_145 rfl (lv_at hl 4 rfl) ?_
                          refine lv_imul hx hb dX7_innerLine_146 ?_
                          refine lv_topi (fun x_6244 ex_6244 => ?_)
                          have hG := hG.trans (lt_eq ex_6244)
                          have vx_6244 : x_6244.toInt = 4 * x_6169.toInt := by have q := ti_mul ex_6244 kc_4 rfl (by omega) (by omega); omega
                          refine lv_iload_n hx hb dX7_innerLine_147 rfl (lv_at hl 3 rfl) ?_
                          refine lv_iadd hx hb dX7_innerLine_148 ?_
                          refine lv_topi (fun x_6245 ex_6245 => ?_)
                          have hG := hG.trans (lt_eq ex_6245)
                          have vx_6245 : x_6245.toInt = 4 * x_6169.toInt + z_6170.toInt := by have q := ti_add ex_6245 vx_6244 rfl (by omega) (by omega); omega
                          refine lv_iload hx hb dX7_innerLine_149 (lv_at hl 1 rfl) ?_
                          refine va_iast hx hb hK hP hD hS 4 3 rfl rfl (ti_in vx_6245 (by omega) (by omega)) dX7_innerLine_151 (fun H locs hP hD hS => ?_)
                          obtain ⟨f_6246, ef_6246⟩ : ∃ g : Nat → Int32, g = upd f_6182 x_6245.toNatClampNeg x_6205 := ⟨_, rfl⟩
                          rw [← ef_6246] at hP hD
                          have hG := hG.trans (lt_eq ef_6246)
                          obtain ⟨hP, hD⟩ := wl2 (ws' := [(oc7 oM iM_thrown rM_tape iM_taped iM_size x_6236 x_6237 x_6238 x_6239 x_6240 z_6208 z_6209 iM_trouble rM_letters z_6207 iM_hasCourt rM_r rM_fresh rM_told rM_read rM_st rM_undone rM_kept iM_undos iM_images rM_fresher x_6166 iM_scale iM_night rM_heardRow rM_cutRow iM_breaths iM_cutMany iM_allBreaths rM_trial rM_words iM_fewestBreaths iM_orderMany iM_orderSum iM_leastOrder rM_often iM_setMany iM_someOf iM_allOf iM_allWeight iM_enoughWeight iM_worthSum iM_firstRest iM_leastDrawn), (arI rM_tape kM_tape 900 fM_tape), (arI rM_letters kM_letters 8 f_6241), (arI rM_fresh kM_fresh 287 f_6181), (arI rM_read kM_read 90 f_6246), (arI rM_fresher kM_fresher 8 f_6168)]) hP hD rfl
                          have q_n1 := ti_cl (x := f_6181 1) rfl (by omega)
                          have pk_f_6246 : POk f_6181 f_6246 := POk.prt hi2_n_6183 ef_6246 (by have q9 := ti_cl (x := x_6245) vx_6245 (by omega); omega) (by have q9 := ti_cl (x := x_6245) vx_6245 (by omega); omega)
                          refine lv_aload_n hx hb dX7_innerLine_152 rfl (lv_at hl 5 rfl) ?_
                          refine va_get (D := (dC, dI)) (ci := 7) (v := .ref rM_fresh) (C := RX7) (T := TX7) (N := 48) hx hb hts inX7 hown hK hP 0 rfl rfl 16 (by decide) (hts _ wd_156) (fun _ h9 => h9) rfl dX7_innerLine_153 ?_
                          refine lv_bipush (v := 45) hx hb dX7_innerLine_156 (by decide) ?_
                          refine lv_iconst (v := 4) hx hb dX7_innerLine_158 (by decide) ?_
                          refine lv_iload_n hx hb dX7_innerLine_159 rfl (lv_at hl 4 rfl) ?_
                          refine lv_imul hx hb dX7_innerLine_160 ?_
                          refine lv_topi (fun x_6247 ex_6247 => ?_)
                          have hG := hG.trans (lt_eq ex_6247)
                          have vx_6247 : x_6247.toInt = 4 * x_6169.toInt := by have q := ti_mul ex_6247 kc_4 rfl (by omega) (by omega); omega
                          refine lv_iadd hx hb dX7_innerLine_161 ?_
                          refine lv_topi (fun x_6248 ex_6248 => ?_)
                          have hG := hG.trans (lt_eq ex_6248)
                          have vx_6248 : x_6248.toInt = 4 * x_6169.toInt + 45 := by have q := ti_add ex_6248 kc_45 vx_6247 (by omega) (by omega); omega
                          refine lv_iload_n hx hb dX7_innerLine_162 rfl (lv_at hl 3 rfl) ?_
                          refine lv_iadd hx hb dX7_innerLine_163 ?_
                          refine lv_topi (fun x_6249 ex_6249 => ?_)
                          have hG := hG.trans (lt_eq ex_6249)
                          have vx_6249 : x_6249.toInt = 4 * x_6169.toInt + z_6170.toInt + 45 := by have q := ti_add ex_6249 vx_6248 rfl (by omega) (by omega); omega
                          refine lv_iload hx hb dX7_innerLine_164 (lv_at hl 0 rfl) ?_
                          refine va_iast hx hb hK hP hD hS 3 2 rfl rfl (ti_in vx_6249 (by omega) (by omega)) dX7_innerLine_166 (fun H locs hP hD hS => ?_)
                          obtain ⟨f_6250, ef_6250⟩ : ∃ g : Nat → Int32, g = upd f_6181 x_6249.toNatClampNeg (0 : Int32) := ⟨_, rfl⟩
                          rw [← ef_6250] at hP hD
                          have hG := hG.trans (lt_eq ef_6250)
                          obtain ⟨hP, hD⟩ := wl2 (ws' := [(oc7 oM iM_thrown rM_tape iM_taped iM_size x_6236 x_6237 x_6238 x_6239 x_6240 z_6208 z_6209 iM_trouble rM_letters z_6207 iM_hasCourt rM_r rM_fresh rM_told rM_read rM_st rM_undone rM_kept iM_undos iM_images rM_fresher x_6166 iM_scale iM_night rM_heardRow rM_cutRow iM_breaths iM_cutMany iM_allBreaths rM_trial rM_words iM_fewestBreaths iM_orderMany iM_orderSum iM_leastOrder rM_often iM_setMany iM_someOf iM_allOf iM_allWeight iM_enoughWeight iM_worthSum iM_firstRest iM_leastDrawn), (arI rM_tape kM_tape 900 fM_tape), (arI rM_letters kM_letters 8 f_6241), (arI rM_fresh kM_fresh 287 f_6250), (arI rM_read kM_read 90 f_6246), (arI rM_fresher kM_fresher 8 f_6168)]) hP hD rfl
                          have pk_f_6250 : POk f_6250 f_6246 := POk.put pk_f_6246 ef_6250 (Or.inr (Or.inr (Or.inr (Or.inr (Or.inr (Or.inl (by have q9 := ti_cl (x := x_6249) vx_6249 (by omega); have q8 := kc_0; omega)))))))
                          have pl_f_6250 := pk_f_6250.lins
                          have nn9 : (f_6181 1).toNatClampNeg = x_6169.toNatClampNeg := by have q1 := ti_cl (x := x_6169) rfl (by omega); have q2 := ti_cl (x := f_6181 1) rfl (by omega); have q3 := ti_cl (x := z_6170) rfl (om_83bd56b0 hi0_n_6183.1); omega
                          have in9 : InOk f_6250 f_6246 (f_6250 1).toNatClampNeg (z_6170.toNatClampNeg + 1) p0.toInt := in_step hi3_n_6183 rfl ef_6246 (by have q1 := ti_cl (x := x_6169) rfl (by omega); have q2 := ti_cl (x := f_6181 1) rfl (by omega); have q3 := ti_cl (x := z_6170) rfl (om_83bd56b0 hi0_n_6183.1); have q9 := ti_cl (x := x_6245) vx_6245 (by omega); omega) ef_6250 (by have q1 := ti_cl (x := x_6169) rfl (by omega); have q2 := ti_cl (x := f_6181 1) rfl (by omega); have q3 := ti_cl (x := z_6170) rfl (om_83bd56b0 hi0_n_6183.1); have q9 := ti_cl (x := x_6249) vx_6249 (by omega); omega) (by omega) (by have q1 := ti_cl (x := x_6169) rfl (by omega); have q2 := ti_cl (x := f_6181 1) rfl (by omega); have q3 := ti_cl (x := z_6170) rfl (om_83bd56b0 hi0_n_6183.1); omega) (fun i9 h9 => by rw [nn9]; exact hi2_n_6210 (by omega) i9 (by have q1 := ti_cl (x := x_6169) rfl (by omega); have q2 := ti_cl (x := f_6181 1) rfl (by omega); have q3 := ti_cl (x := z_6170) rfl (om_83bd56b0 hi0_n_6183.1); have q4 := ti_cl (x := z_6206) rfl (om_83bd56b0 hi0_n_6210.1); omega)) (fun h9 => by have q0 := kc_0; omega) rfl
                          have o1_f_6250 : (f_6250 1).toInt = (f_6181 1).toInt := put_at ef_6250 (by have q9 := ti_cl (x := x_6249) vx_6249 (by omega); omega)
                          have o7_f_6250 : (f_6250 7).toInt = (f_6181 7).toInt := put_at ef_6250 (by have q9 := ti_cl (x := x_6249) vx_6249 (by omega); omega)
                          have o8_f_6250 : (f_6250 8).toInt = (f_6181 8).toInt := put_at ef_6250 (by have q9 := ti_cl (x := x_6249) vx_6249 (by omega); omega)
                          obtain ⟨x_6251, ex_6251⟩ : ∃ z : Int32, z = z_6170 + Int32.ofInt 1 := ⟨_, rfl⟩
                          have hG := hG.trans (lt_eq ex_6251)
                          have vx_6251 : x_6251.toInt = z_6170.toInt + 1 := ti_add (y := 1) ex_6251 rfl kc_1 (om_4e4fce7e hi0_n_6183.1) (om_a537a948 gc_6235)
                          refine lv_iinc (v := x_6251) (lv' := [(3, .int x_6251), (6, .int 0), (5, .int x_6205), (4, .int z_6171), (2, .int x_6169), (0, .ref oM), (1, .int p0)]) hx hb dX7_innerLine_167 hl (k := 3) rfl ex_6251.symm (by decide) rfl (fun ls hl => ?_)
                          refine lv_aload_n hx hb dX7_innerLine_170 rfl (lv_at hl 5 rfl) ?_
                          refine va_get (D := (dC, dI)) (ci := 7) (v := .int x_6238) (C := RX7) (T := TX7) (N := 48) hx hb hts inX7 hown hK hP 0 rfl rfl 6 (by decide) (hts _ wd_383) (fun _ h9 => h9) rfl dX7_innerLine_171 ?_
                          refine lv_bipush (v := 44) hx hb dX7_innerLine_174 (by decide) ?_
                          refine lv_icmp_ne (tgt := 183) hx hb dX7_innerLine_176 (by decide) (fun c_6252 => ?_) (fun c_6252 => ?_)
                          · skip
                            have hG := hG.trans (if_neg c_6252)
                            have gc_6252 := ti_ne c_6252 rfl kc_44
                            clear gc_6252
                            refine lv_iconst (v := 0) hx hb dX7_innerLine_183 (by decide) ?_
                            refine lv_istore (lv' := [(4, .int 0), (3, .int x_6251), (6, .int 0), (5, .int x_6205), (2, .int x_6169), (0, .ref oM), (1, .int p0)]) hx hb dX7_innerLine_184 hl (by decide) rfl (fun ls hl => ?_)
                            refine lv_iload hx hb dX7_innerLine_186 (lv_at hl 0 rfl) ?_
                            refine lv_if_eq (tgt := 195) hx hb dX7_innerLine_188 (by decide) (fun _ => ?_) (fun c => absurd c (by decide))
                            refine lv_goto (tgt := 24) hx hb dX7_innerLine_195 (by decide) ?_
                            exact ih_n_6183 x_6251 0 x_6236 x_6237 x_6238 x_6239 x_6240 z_6208 z_6209 z_6207 f_6241 f_6250 f_6246 _ _ _ b_x_6237 b_x_6240 b_z_6207 ⟨(om_83b90de5 hi0_n_6183.1 vx_6251), (om_2c69d3de gc_6235 vx_6251)⟩ ⟨(om_b1de7dbe kc_0), (om_270f4ea0 kc_0)⟩ (by assumption) (by rw [show x_6251.toNatClampNeg = z_6170.toNatClampNeg + 1 from (by have q1 := ti_cl (x := x_6251) vx_6251 (om_9548a8fd hi0_n_6183.1); have q2 := ti_cl (x := z_6170) rfl (om_83bd56b0 hi0_n_6183.1); omega)]; exact in9) ⟨(om_216d7917 hi4_n_6183.1 o1_f_6250), (om_216d7917 hi4_n_6183.2.1 o7_f_6250), (om_216d7917 hi4_n_6183.2.2 o8_f_6250)⟩ (fun h9 => by have q0 := kc_0; have q1 := kc_1; omega) e_x_6236_1 (om_9348f5ae hi7_n_6183 e_x_6236_0) (fun h9 => by have q0 := kc_0; have q1 := kc_1; have q9 := e_x_6236_2 (by omega); omega) (ms_lt hm_n_6183 (om_ed22490e vx_6251) (om_36ac28fa gc_6235)) hG hP hD hS (lv_sub hl [0, 1, 4, 5, 6] rfl)
                          · skip
                            have hG := hG.trans (if_pos c_6252)
                            have gc_6252 := ti_eq c_6252 rfl kc_44
                            refine lv_iconst (v := 1) hx hb dX7_innerLine_179 (by decide) ?_
                            refine lv_goto (tgt := 184) hx hb dX7_innerLine_180 (by decide) ?_
                            refine lv_istore (lv' := [(4, .int 1), (3, .int x_6251), (6, .int 0), (5, .int x_6205), (2, .int x_6169), (0, .ref oM), (1, .int p0)]) hx hb dX7_innerLine_184 hl (by decide) rfl (fun ls hl => ?_)
                            refine lv_iload hx hb dX7_innerLine_186 (lv_at hl 0 rfl) ?_
                            refine lv_if_eq (tgt := 195) hx hb dX7_innerLine_188 (by decide) (fun c => absurd c (by decide)) (fun _ => ?_)
                            refine lv_aload_n hx hb dX7_innerLine_191 rfl (lv_at hl 5 rfl) ?_
                            have hMs := ml_of hD [true, true, true, false, false, false] (wc := [(oc7 oM iM_thrown rM_tape iM_taped iM_size x_6236 x_6237 x_6238 x_6239 x_6240 z_6208 z_6209 iM_trouble rM_letters z_6207 iM_hasCourt rM_r rM_fresh rM_told rM_read rM_st rM_undone rM_kept iM_undos iM_images rM_fresher x_6166 iM_scale iM_night rM_heardRow rM_cutRow iM_breaths iM_cutMany iM_allBreaths rM_trial rM_words iM_fewestBreaths iM_orderMany iM_orderSum iM_leastOrder rM_often iM_setMany iM_someOf iM_allOf iM_allWeight iM_enoughWeight iM_worthSum iM_firstRest iM_leastDrawn), (arI rM_tape kM_tape 900 fM_tape), (arI rM_letters kM_letters 8 f_6241)]) rfl
                            have hFc := va_freeM hD hS hA _ hMs
                            refine va_callv (va_runV (As := []) (rest := []) ⟨hx, hb, hml, hown, hts⟩ (tX7_next l dC dI _ oM iM_thrown rM_tape fM_tape kM_tape iM_taped iM_size x_6236 x_6237 x_6238 x_6239 x_6240 z_6208 z_6209 iM_trouble rM_letters f_6241 kM_letters z_6207 iM_hasCourt rM_r rM_fresh rM_told rM_read rM_st rM_undone rM_kept iM_undos iM_images rM_fresher x_6166 iM_scale iM_night rM_heardRow rM_cutRow iM_breaths iM_cutMany iM_allBreaths rM_trial rM_words iM_fewestBreaths iM_orderMany iM_orderSum iM_leastOrder rM_often iM_setMany iM_someOf iM_allOf iM_allWeight iM_enoughWeight iM_worthSum iM_firstRest iM_leastDrawn b_iM_taped b_iM_size b_x_6237 b_x_6240 b_z_6207 b_iM_hasCourt b_iM_undos b_iM_images b_iM_scale b_iM_breaths b_iM_cutMany (by first | assumption | exact (fun h9 => by have q0 := kc_0; have q1 := kc_1; omega))) (cwV 0 hts (wd_V wd_400 wd_401 wd_402 wd_5 (wd_c wd_403)) rfl rfl rfl dv_yX7_next_0 ⟨Nat.le_of_ble_eq_true rfl, Nat.le_of_ble_eq_true rfl⟩) ⟨Pw.fb, recvX7 hK hP (q0 := 0) rfl, fun U hU hW => Pw.to (hP.ms _ hMs) (hD.ms _ hMs) (hK.ms [true, true, false, false, false] rfl) hE hS hFc hU hW⟩ rfl rfl hl.1 rfl (lv_room (Nat.le_of_ble_eq_true rfl)) dX7_innerLine_192 ⟨Nat.le_of_ble_eq_true rfl, Nat.le_of_ble_eq_true rfl⟩) hS (fun q _ h => hFc q h) hFc (fun u t H locs ht hvm hw hB hz1 hk1 hS => ?_)
                            refine ex_6_6 hB (fun x_6255 x_6256 x_6257 x_6258 x_6259 f_6260 b_x_6256 b_x_6259 e_x_6255_0 e_x_6255_1 e_x_6255_2 e_x_6255_3 hB => ?_)
                            obtain ⟨hP, hD⟩ := Bw.goN (ws' := [(oc7 oM iM_thrown rM_tape iM_taped iM_size x_6255 x_6256 x_6257 x_6258 x_6259 z_6208 z_6209 iM_trouble rM_letters z_6207 iM_hasCourt rM_r rM_fresh rM_told rM_read rM_st rM_undone rM_kept iM_undos iM_images rM_fresher x_6166 iM_scale iM_night rM_heardRow rM_cutRow iM_breaths iM_cutMany iM_allBreaths rM_trial rM_words iM_fewestBreaths iM_orderMany iM_orderSum iM_leastOrder rM_often iM_setMany iM_someOf iM_allOf iM_allWeight iM_enoughWeight iM_worthSum iM_firstRest iM_leastDrawn), (arI rM_tape kM_tape 900 fM_tape), (arI rM_letters kM_letters 8 f_6260), (arI rM_fresh kM_fresh 287 f_6250), (arI rM_read kM_read 90 f_6246), (arI rM_fresher kM_fresher 8 f_6168)]) hB rfl ht hP hD _ hMs hk1 hFc rfl
                            clear hz1 hk1 hvm ht hB hMs
                            have hG := hG.trans (un6_eq e_x_6255_3)
                            clear e_x_6236_1
                            clear e_x_6236_2
                            refine lv_goto (tgt := 24) hx hb dX7_innerLine_195 (by decide) ?_
                            exact ih_n_6183 x_6251 1 x_6255 x_6256 x_6257 x_6258 x_6259 z_6208 z_6209 z_6207 f_6260 f_6250 f_6246 _ _ _ b_x_6256 b_x_6259 b_z_6207 ⟨(om_83b90de5 hi0_n_6183.1 vx_6251), (om_2c69d3de gc_6235 vx_6251)⟩ ⟨(om_1b364b1c kc_1), (om_02032f93 kc_1)⟩ (by assumption) (by rw [show x_6251.toNatClampNeg = z_6170.toNatClampNeg + 1 from (by have q1 := ti_cl (x := x_6251) vx_6251 (om_9548a8fd hi0_n_6183.1); have q2 := ti_cl (x := z_6170) rfl (om_83bd56b0 hi0_n_6183.1); omega)]; exact in9) ⟨(om_216d7917 hi4_n_6183.1 o1_f_6250), (om_216d7917 hi4_n_6183.2.1 o7_f_6250), (om_216d7917 hi4_n_6183.2.2 o8_f_6250)⟩ (fun h9 => by have q0 := kc_0; have q1 := kc_1; omega) e_x_6255_1 (om_622f2a87 hi7_n_6183 e_x_6236_0 e_x_6255_0) (fun h9 => by have q0 := kc_0; have q1 := kc_1; have q9 := e_x_6255_2 (by omega); omega) (ms_lt hm_n_6183 (om_ed22490e vx_6251) (om_36ac28fa gc_6235)) hG hP hD hS (lv_sub hl [0, 1, 4, 5, 6] rfl)
                        · skip
                          have hG := hG.trans (if_neg c_6243)
                          have gc_6243 := ti_ne c_6243 rfl kc_0
                          replace gc_6243 : z_6207.toInt + 1 ≤ 0 := by omega
                          exfalso; clear hG; omega
                      · skip
                        have hG := hG.trans (if_pos c_6242)
                        have gc_6242 := ti_eq c_6242 rfl kc_3
                        have h_6261 := hic (by omega)
                        clear hic
                        refine lv_aload_n hx hb dX7_innerLine_119 rfl (lv_at hl 5 rfl) ?_
                        refine lv_iconst (v := 1) hx hb dX7_innerLine_120 (by decide) ?_
                        refine lv_bipush (v := 9) hx hb dX7_innerLine_121 (by decide) ?_
                        have hMs := ml_of hD [true, true, true, false, false, false] (wc := [(oc7 oM iM_thrown rM_tape iM_taped iM_size x_6236 x_6237 x_6238 x_6239 x_6240 z_6208 z_6209 iM_trouble rM_letters z_6207 iM_hasCourt rM_r rM_fresh rM_told rM_read rM_st rM_undone rM_kept iM_undos iM_images rM_fresher x_6166 iM_scale iM_night rM_heardRow rM_cutRow iM_breaths iM_cutMany iM_allBreaths rM_trial rM_words iM_fewestBreaths iM_orderMany iM_orderSum iM_leastOrder rM_often iM_setMany iM_someOf iM_allOf iM_allWeight iM_enoughWeight iM_worthSum iM_firstRest iM_leastDrawn), (arI rM_tape kM_tape 900 fM_tape), (arI rM_letters kM_letters 8 f_6241)]) rfl
                        have hFc := va_freeM hD hS hA _ hMs
                        refine va_calli (va_runV (As := [.int 1, .int 9]) (rest := []) ⟨hx, hb, hml, hown, hts⟩ (tX7_number l dC dI _ oM iM_thrown rM_tape fM_tape kM_tape iM_taped iM_size x_6236 x_6237 x_6238 x_6239 x_6240 z_6208 z_6209 iM_trouble rM_letters f_6241 kM_letters z_6207 iM_hasCourt rM_r rM_fresh rM_told rM_read rM_st rM_undone rM_kept iM_undos iM_images rM_fresher x_6166 iM_scale iM_night rM_heardRow rM_cutRow iM_breaths iM_cutMany iM_allBreaths rM_trial rM_words iM_fewestBreaths iM_orderMany iM_orderSum iM_leastOrder rM_often iM_setMany iM_someOf iM_allOf iM_allWeight iM_enoughWeight iM_worthSum iM_firstRest iM_leastDrawn 1 9 b_iM_taped b_iM_size b_x_6237 b_x_6240 b_z_6207 b_iM_hasCourt b_iM_undos b_iM_images b_iM_scale b_iM_breaths b_iM_cutMany (by first | assumption | exact (fun h9 => by have q0 := kc_0; have q1 := kc_1; omega)) (om_dc317686 kc_1 kc_9)) (cwV 2 hts (wd_V wd_446 wd_447 wd_448 wd_5 (wd_c wd_449)) rfl rfl rfl dv_yX7_number_2 ⟨Nat.le_of_ble_eq_true rfl, Nat.le_of_ble_eq_true rfl⟩) ⟨Pw.fb, recvX7 hK hP (q0 := 0) rfl, fun U hU hW => Pw.to (hP.ms _ hMs) (hD.ms _ hMs) (hK.ms [true, true, false, false, false] rfl) hE hS hFc hU hW⟩ rfl rfl hl.1 rfl (lv_room (Nat.le_of_ble_eq_true rfl)) dX7_innerLine_123 ⟨Nat.le_of_ble_eq_true rfl, Nat.le_of_ble_eq_true rfl⟩) hS (fun q _ h => hFc q h) hFc (fun r u t H locs ht hvm hw hB hz1 hk1 hS => ?_)
                        have hru9 := hw.2
                        have hw := hw.1
                        refine ex_9_8 hB (fun x_6262 x_6263 x_6264 x_6265 x_6266 x_6267 x_6268 x_6269 f_6270 b_x_6263 b_x_6266 b_x_6269 e_x_6262_0 e_x_6262_1 e_x_6262_2 e_x_6262_3 e_x_6262_4 hB => ?_)
                        obtain ⟨hP, hD⟩ := Bw.goN (ws' := [(oc7 oM iM_thrown rM_tape iM_taped iM_size x_6262 x_6263 x_6264 x_6265 x_6266 x_6267 x_6268 iM_trouble rM_letters x_6269 iM_hasCourt rM_r rM_fresh rM_told rM_read rM_st rM_undone rM_kept iM_undos iM_images rM_fresher x_6166 iM_scale iM_night rM_heardRow rM_cutRow iM_breaths iM_cutMany iM_allBreaths rM_trial rM_words iM_fewestBreaths iM_orderMany iM_orderSum iM_leastOrder rM_often iM_setMany iM_someOf iM_allOf iM_allWeight iM_enoughWeight iM_worthSum iM_firstRest iM_leastDrawn), (arI rM_tape kM_tape 900 fM_tape), (arI rM_letters kM_letters 8 f_6270), (arI rM_fresh kM_fresh 287 f_6181), (arI rM_read kM_read 90 f_6182), (arI rM_fresher kM_fresher 8 f_6168)]) hB rfl ht hP hD _ hMs hk1 hFc rfl
                        clear hz1 hk1 hvm ht hB hMs
                        rw [← hru9] at e_x_6262_4
                        obtain ⟨x_6271, rfl⟩ : ∃ z, z = r := ⟨_, rfl⟩
                        have hG := hG.trans (un10_eq e_x_6262_4)
                        have lx_6271 := hw.2
                        have kl_1 := kc_1
                        have kl_9 := kc_9
                        clear e_x_6236_1
                        clear e_x_6236_2
                        refine lv_goto (tgt := 130) hx hb dX7_innerLine_126 (by decide) ?_
                        refine lv_istore (lv' := [(6, .int x_6271), (5, .int x_6205), (4, .int z_6171), (3, .int z_6170), (2, .int x_6169), (0, .ref oM), (1, .int p0)]) hx hb dX7_innerLine_130 hl (by decide) rfl (fun ls hl => ?_)
                        refine lv_aload_n hx hb dX7_innerLine_132 rfl (lv_at hl 5 rfl) ?_
                        refine va_get (D := (dC, dI)) (ci := 7) (v := .int x_6269) (C := RX7) (T := TX7) (N := 48) hx hb hts inX7 hown hK hP 0 rfl rfl 13 (by decide) (hts _ wd_380) (fun _ h9 => h9) rfl dX7_innerLine_133 ?_
                        refine lv_if_eq (tgt := 140) hx hb dX7_innerLine_136 (by decide) (fun c_6272 => ?_) (fun c_6272 => ?_)
                        · skip
                          have hG := hG.trans (if_pos c_6272)
                          have gc_6272 := ti_eq c_6272 rfl kc_0
                          refine lv_aload_n hx hb dX7_innerLine_140 rfl (lv_at hl 5 rfl) ?_
                          refine va_get (D := (dC, dI)) (ci := 7) (v := .ref rM_read) (C := RX7) (T := TX7) (N := 48) hx hb hts inX7 hown hK hP 0 rfl rfl 18 (by decide) (hts _ wd_158) (fun _ h9 => h9) rfl dX7_innerLine_141 ?_
                          refine lv_iconst (v := 4) hx hb dX7_innerLine_144 (by decide) ?_
                          refine lv_iload_n hx hb dX7_innerLine_145 rfl (lv_at hl 4 rfl) ?_
                          refine lv_imul hx hb dX7_innerLine_146 ?_
                          refine lv_topi (fun x_6273 ex_6273 => ?_)
                          have hG := hG.trans (lt_eq ex_6273)
                          have vx_6273 : x_6273.toInt = 4 * x_6169.toInt := by have q := ti_mul ex_6273 kc_4 rfl (by omega) (by omega); omega
                          refine lv_iload_n hx hb dX7_innerLine_147 rfl (lv_at hl 3 rfl) ?_
                          refine lv_iadd hx hb dX7_innerLine_148 ?_
                          refine lv_topi (fun x_6274 ex_6274 => ?_)
                          have hG := hG.trans (lt_eq ex_6274)
                          have vx_6274 : x_6274.toInt = 4 * x_6169.toInt + z_6170.toInt := by have q := ti_add ex_6274 vx_6273 rfl (by omega) (by omega); omega
                          refine lv_iload hx hb dX7_innerLine_149 (lv_at hl 1 rfl) ?_
                          refine va_iast hx hb hK hP hD hS 4 3 rfl rfl (ti_in vx_6274 (by omega) (by omega)) dX7_innerLine_151 (fun H locs hP hD hS => ?_)
                          obtain ⟨f_6275, ef_6275⟩ : ∃ g : Nat → Int32, g = upd f_6182 x_6274.toNatClampNeg x_6205 := ⟨_, rfl⟩
                          rw [← ef_6275] at hP hD
                          have hG := hG.trans (lt_eq ef_6275)
                          obtain ⟨hP, hD⟩ := wl2 (ws' := [(oc7 oM iM_thrown rM_tape iM_taped iM_size x_6262 x_6263 x_6264 x_6265 x_6266 x_6267 x_6268 iM_trouble rM_letters x_6269 iM_hasCourt rM_r rM_fresh rM_told rM_read rM_st rM_undone rM_kept iM_undos iM_images rM_fresher x_6166 iM_scale iM_night rM_heardRow rM_cutRow iM_breaths iM_cutMany iM_allBreaths rM_trial rM_words iM_fewestBreaths iM_orderMany iM_orderSum iM_leastOrder rM_often iM_setMany iM_someOf iM_allOf iM_allWeight iM_enoughWeight iM_worthSum iM_firstRest iM_leastDrawn), (arI rM_tape kM_tape 900 fM_tape), (arI rM_letters kM_letters 8 f_6270), (arI rM_fresh kM_fresh 287 f_6181), (arI rM_read kM_read 90 f_6275), (arI rM_fresher kM_fresher 8 f_6168)]) hP hD rfl
                          have q_n1 := ti_cl (x := f_6181 1) rfl (by omega)
                          have pk_f_6275 : POk f_6181 f_6275 := POk.prt hi2_n_6183 ef_6275 (by have q9 := ti_cl (x := x_6274) vx_6274 (by omega); omega) (by have q9 := ti_cl (x := x_6274) vx_6274 (by omega); omega)
                          refine lv_aload_n hx hb dX7_innerLine_152 rfl (lv_at hl 5 rfl) ?_
                          refine va_get (D := (dC, dI)) (ci := 7) (v := .ref rM_fresh) (C := RX7) (T := TX7) (N := 48) hx hb hts inX7 hown hK hP 0 rfl rfl 16 (by decide) (hts _ wd_156) (fun _ h9 => h9) rfl dX7_innerLine_153 ?_
                          refine lv_bipush (v := 45) hx hb dX7_innerLine_156 (by decide) ?_
                          refine lv_iconst (v := 4) hx hb dX7_innerLine_158 (by decide) ?_
                          refine lv_iload_n hx hb dX7_innerLine_159 rfl (lv_at hl 4 rfl) ?_
                          refine lv_imul hx hb dX7_innerLine_160 ?_
                          refine lv_topi (fun x_6276 ex_6276 => ?_)
                          have hG := hG.trans (lt_eq ex_6276)
                          have vx_6276 : x_6276.toInt = 4 * x_6169.toInt := by have q := ti_mul ex_6276 kc_4 rfl (by omega) (by omega); omega
                          refine lv_iadd hx hb dX7_innerLine_161 ?_
                          refine lv_topi (fun x_6277 ex_6277 => ?_)
                          have hG := hG.trans (lt_eq ex_6277)
                          have vx_6277 : x_6277.toInt = 4 * x_6169.toInt + 45 := by have q := ti_add ex_6277 kc_45 vx_6276 (by omega) (by omega); omega
                          refine lv_iload_n hx hb dX7_innerLine_162 rfl (lv_at hl 3 rfl) ?_
                          refine lv_iadd hx hb dX7_innerLine_163 ?_
                          refine lv_topi (fun x_6278 ex_6278 => ?_)
                          have hG := hG.trans (lt_eq ex_6278)
                          have vx_6278 : x_6278.toInt = 4 * x_6169.toInt + z_6170.toInt + 45 := by have q := ti_add ex_6278 vx_6277 rfl (by omega) (by omega); omega
                          refine lv_iload hx hb dX7_innerLine_164 (lv_at hl 0 rfl) ?_
                          refine va_iast hx hb hK hP hD hS 3 2 rfl rfl (ti_in vx_6278 (by omega) (by omega)) dX7_innerLine_166 (fun H locs hP hD hS => ?_)
                          obtain ⟨f_6279, ef_6279⟩ : ∃ g : Nat → Int32, g = upd f_6181 x_6278.toNatClampNeg x_6271 := ⟨_, rfl⟩
                          rw [← ef_6279] at hP hD
                          have hG := hG.trans (lt_eq ef_6279)
                          obtain ⟨hP, hD⟩ := wl2 (ws' := [(oc7 oM iM_thrown rM_tape iM_taped iM_size x_6262 x_6263 x_6264 x_6265 x_6266 x_6267 x_6268 iM_trouble rM_letters x_6269 iM_hasCourt rM_r rM_fresh rM_told rM_read rM_st rM_undone rM_kept iM_undos iM_images rM_fresher x_6166 iM_scale iM_night rM_heardRow rM_cutRow iM_breaths iM_cutMany iM_allBreaths rM_trial rM_words iM_fewestBreaths iM_orderMany iM_orderSum iM_leastOrder rM_often iM_setMany iM_someOf iM_allOf iM_allWeight iM_enoughWeight iM_worthSum iM_firstRest iM_leastDrawn), (arI rM_tape kM_tape 900 fM_tape), (arI rM_letters kM_letters 8 f_6270), (arI rM_fresh kM_fresh 287 f_6279), (arI rM_read kM_read 90 f_6275), (arI rM_fresher kM_fresher 8 f_6168)]) hP hD rfl
                          have pk_f_6279 : POk f_6279 f_6275 := POk.put pk_f_6275 ef_6279 (Or.inr (Or.inr (Or.inr (Or.inr (Or.inr (Or.inl (by have q9 := ti_cl (x := x_6278) vx_6278 (by omega); omega)))))))
                          have pl_f_6279 := pk_f_6279.lins
                          have nn9 : (f_6181 1).toNatClampNeg = x_6169.toNatClampNeg := by have q1 := ti_cl (x := x_6169) rfl (by omega); have q2 := ti_cl (x := f_6181 1) rfl (by omega); have q3 := ti_cl (x := z_6170) rfl (om_83bd56b0 hi0_n_6183.1); omega
                          have in9 : InOk f_6279 f_6275 (f_6279 1).toNatClampNeg (z_6170.toNatClampNeg + 1) p0.toInt := in_step hi3_n_6183 rfl ef_6275 (by have q1 := ti_cl (x := x_6169) rfl (by omega); have q2 := ti_cl (x := f_6181 1) rfl (by omega); have q3 := ti_cl (x := z_6170) rfl (om_83bd56b0 hi0_n_6183.1); have q9 := ti_cl (x := x_6274) vx_6274 (by omega); omega) ef_6279 (by have q1 := ti_cl (x := x_6169) rfl (by omega); have q2 := ti_cl (x := f_6181 1) rfl (by omega); have q3 := ti_cl (x := z_6170) rfl (om_83bd56b0 hi0_n_6183.1); have q9 := ti_cl (x := x_6278) vx_6278 (by omega); omega) (by omega) (by have q1 := ti_cl (x := x_6169) rfl (by omega); have q2 := ti_cl (x := f_6181 1) rfl (by omega); have q3 := ti_cl (x := z_6170) rfl (om_83bd56b0 hi0_n_6183.1); omega) (fun i9 h9 => by rw [nn9]; exact hi2_n_6210 (by omega) i9 (by have q1 := ti_cl (x := x_6169) rfl (by omega); have q2 := ti_cl (x := f_6181 1) rfl (by omega); have q3 := ti_cl (x := z_6170) rfl (om_83bd56b0 hi0_n_6183.1); have q4 := ti_cl (x := z_6206) rfl (om_83bd56b0 hi0_n_6210.1); omega)) (fun h9 => by have q0 := kc_0; omega) rfl
                          have o1_f_6279 : (f_6279 1).toInt = (f_6181 1).toInt := put_at ef_6279 (by have q9 := ti_cl (x := x_6278) vx_6278 (by omega); omega)
                          have o7_f_6279 : (f_6279 7).toInt = (f_6181 7).toInt := put_at ef_6279 (by have q9 := ti_cl (x := x_6278) vx_6278 (by omega); omega)
                          have o8_f_6279 : (f_6279 8).toInt = (f_6181 8).toInt := put_at ef_6279 (by have q9 := ti_cl (x := x_6278) vx_6278 (by omega); omega)
                          obtain ⟨x_6280, ex_6280⟩ : ∃ z : Int32, z = z_6170 + Int32.ofInt 1 := ⟨_, rfl⟩
                          have hG := hG.trans (lt_eq ex_6280)
                          have vx_6280 : x_6280.toInt = z_6170.toInt + 1 := ti_add (y := 1) ex_6280 rfl kc_1 (om_4e4fce7e hi0_n_6183.1) (om_a537a948 gc_6235)
                          refine lv_iinc (v := x_6280) (lv' := [(3, .int x_6280), (6, .int x_6271), (5, .int x_6205), (4, .int z_6171), (2, .int x_6169), (0, .ref oM), (1, .int p0)]) hx hb dX7_innerLine_167 hl (k := 3) rfl ex_6280.symm (by decide) rfl (fun ls hl => ?_)
                          refine lv_aload_n hx hb dX7_innerLine_170 rfl (lv_at hl 5 rfl) ?_
                          refine va_get (D := (dC, dI)) (ci := 7) (v := .int x_6264) (C := RX7) (T := TX7) (N := 48) hx hb hts inX7 hown hK hP 0 rfl rfl 6 (by decide) (hts _ wd_383) (fun _ h9 => h9) rfl dX7_innerLine_171 ?_
                          refine lv_bipush (v := 44) hx hb dX7_innerLine_174 (by decide) ?_
                          refine lv_icmp_ne (tgt := 183) hx hb dX7_innerLine_176 (by decide) (fun c_6281 => ?_) (fun c_6281 => ?_)
                          · skip
                            have hG := hG.trans (if_neg c_6281)
                            have gc_6281 := ti_ne c_6281 rfl kc_44
                            clear gc_6281
                            refine lv_iconst (v := 0) hx hb dX7_innerLine_183 (by decide) ?_
                            refine lv_istore (lv' := [(4, .int 0), (3, .int x_6280), (6, .int x_6271), (5, .int x_6205), (2, .int x_6169), (0, .ref oM), (1, .int p0)]) hx hb dX7_innerLine_184 hl (by decide) rfl (fun ls hl => ?_)
                            refine lv_iload hx hb dX7_innerLine_186 (lv_at hl 0 rfl) ?_
                            refine lv_if_eq (tgt := 195) hx hb dX7_innerLine_188 (by decide) (fun _ => ?_) (fun c => absurd c (by decide))
                            refine lv_goto (tgt := 24) hx hb dX7_innerLine_195 (by decide) ?_
                            exact ih_n_6183 x_6280 0 x_6262 x_6263 x_6264 x_6265 x_6266 x_6267 x_6268 x_6269 f_6270 f_6279 f_6275 _ _ _ b_x_6263 b_x_6266 b_x_6269 ⟨(om_83b90de5 hi0_n_6183.1 vx_6280), (om_2c69d3de gc_6235 vx_6280)⟩ ⟨(om_b1de7dbe kc_0), (om_270f4ea0 kc_0)⟩ (by assumption) (by rw [show x_6280.toNatClampNeg = z_6170.toNatClampNeg + 1 from (by have q1 := ti_cl (x := x_6280) vx_6280 (om_9548a8fd hi0_n_6183.1); have q2 := ti_cl (x := z_6170) rfl (om_83bd56b0 hi0_n_6183.1); omega)]; exact in9) ⟨(om_216d7917 hi4_n_6183.1 o1_f_6279), (om_216d7917 hi4_n_6183.2.1 o7_f_6279), (om_216d7917 hi4_n_6183.2.2 o8_f_6279)⟩ (fun h9 => by have q0 := kc_0; have q1 := kc_1; omega) e_x_6262_1 (om_622f2a87 hi7_n_6183 e_x_6236_0 e_x_6262_0) (fun h9 => by have q0 := kc_0; have q1 := kc_1; have q9 := e_x_6262_3 (by omega); omega) (ms_lt hm_n_6183 (om_ed22490e vx_6280) (om_36ac28fa gc_6235)) hG hP hD hS (lv_sub hl [0, 1, 4, 5, 6] rfl)
                          · skip
                            have hG := hG.trans (if_pos c_6281)
                            have gc_6281 := ti_eq c_6281 rfl kc_44
                            refine lv_iconst (v := 1) hx hb dX7_innerLine_179 (by decide) ?_
                            refine lv_goto (tgt := 184) hx hb dX7_innerLine_180 (by decide) ?_
                            refine lv_istore (lv' := [(4, .int 1), (3, .int x_6280), (6, .int x_6271), (5, .int x_6205), (2, .int x_6169), (0, .ref oM), (1, .int p0)]) hx hb dX7_innerLine_184 hl (by decide) rfl (fun ls hl => ?_)
                            refine lv_iload hx hb dX7_innerLine_186 (lv_at hl 0 rfl) ?_
                            refine lv_if_eq (tgt := 195) hx hb dX7_innerLine_188 (by decide) (fun c => absurd c (by decide)) (fun _ => ?_)
                            refine lv_aload_n hx hb dX7_innerLine_191 rfl (lv_at hl 5 rfl) ?_
                            have hMs := ml_of hD [true, true, true, false, false, false] (wc := [(oc7 oM iM_thrown rM_tape iM_taped iM_size x_6262 x_6263 x_6264 x_6265 x_6266 x_6267 x_6268 iM_trouble rM_letters x_6269 iM_hasCourt rM_r rM_fresh rM_told rM_read rM_st rM_undone rM_kept iM_undos iM_images rM_fresher x_6166 iM_scale iM_night rM_heardRow rM_cutRow iM_breaths iM_cutMany iM_allBreaths rM_trial rM_words iM_fewestBreaths iM_orderMany iM_orderSum iM_leastOrder rM_often iM_setMany iM_someOf iM_allOf iM_allWeight iM_enoughWeight iM_worthSum iM_firstRest iM_leastDrawn), (arI rM_tape kM_tape 900 fM_tape), (arI rM_letters kM_letters 8 f_6270)]) rfl
                            have hFc := va_freeM hD hS hA _ hMs
                            refine va_callv (va_runV (As := []) (rest := []) ⟨hx, hb, hml, hown, hts⟩ (tX7_next l dC dI _ oM iM_thrown rM_tape fM_tape kM_tape iM_taped iM_size x_6262 x_6263 x_6264 x_6265 x_6266 x_6267 x_6268 iM_trouble rM_letters f_6270 kM_letters x_6269 iM_hasCourt rM_r rM_fresh rM_told rM_read rM_st rM_undone rM_kept iM_undos iM_images rM_fresher x_6166 iM_scale iM_night rM_heardRow rM_cutRow iM_breaths iM_cutMany iM_allBreaths rM_trial rM_words iM_fewestBreaths iM_orderMany iM_orderSum iM_leastOrder rM_often iM_setMany iM_someOf iM_allOf iM_allWeight iM_enoughWeight iM_worthSum iM_firstRest iM_leastDrawn b_iM_taped b_iM_size b_x_6263 b_x_6266 b_x_6269 b_iM_hasCourt b_iM_undos b_iM_images b_iM_scale b_iM_breaths b_iM_cutMany (by first | assumption | exact (fun h9 => by have q0 := kc_0; have q1 := kc_1; omega))) (cwV 0 hts (wd_V wd_400 wd_401 wd_402 wd_5 (wd_c wd_403)) rfl rfl rfl dv_yX7_next_0 ⟨Nat.le_of_ble_eq_true rfl, Nat.le_of_ble_eq_true rfl⟩) ⟨Pw.fb, recvX7 hK hP (q0 := 0) rfl, fun U hU hW => Pw.to (hP.ms _ hMs) (hD.ms _ hMs) (hK.ms [true, true, false, false, false] rfl) hE hS hFc hU hW⟩ rfl rfl hl.1 rfl (lv_room (Nat.le_of_ble_eq_true rfl)) dX7_innerLine_192 ⟨Nat.le_of_ble_eq_true rfl, Nat.le_of_ble_eq_true rfl⟩) hS (fun q _ h => hFc q h) hFc (fun u t H locs ht hvm hw hB hz1 hk1 hS => ?_)
                            refine ex_6_6 hB (fun x_6284 x_6285 x_6286 x_6287 x_6288 f_6289 b_x_6285 b_x_6288 e_x_6284_0 e_x_6284_1 e_x_6284_2 e_x_6284_3 hB => ?_)
                            obtain ⟨hP, hD⟩ := Bw.goN (ws' := [(oc7 oM iM_thrown rM_tape iM_taped iM_size x_6284 x_6285 x_6286 x_6287 x_6288 x_6267 x_6268 iM_trouble rM_letters x_6269 iM_hasCourt rM_r rM_fresh rM_told rM_read rM_st rM_undone rM_kept iM_undos iM_images rM_fresher x_6166 iM_scale iM_night rM_heardRow rM_cutRow iM_breaths iM_cutMany iM_allBreaths rM_trial rM_words iM_fewestBreaths iM_orderMany iM_orderSum iM_leastOrder rM_often iM_setMany iM_someOf iM_allOf iM_allWeight iM_enoughWeight iM_worthSum iM_firstRest iM_leastDrawn), (arI rM_tape kM_tape 900 fM_tape), (arI rM_letters kM_letters 8 f_6289), (arI rM_fresh kM_fresh 287 f_6279), (arI rM_read kM_read 90 f_6275), (arI rM_fresher kM_fresher 8 f_6168)]) hB rfl ht hP hD _ hMs hk1 hFc rfl
                            clear hz1 hk1 hvm ht hB hMs
                            have hG := hG.trans (un6_eq e_x_6284_3)
                            clear e_x_6262_1
                            clear e_x_6262_3
                            refine lv_goto (tgt := 24) hx hb dX7_innerLine_195 (by decide) ?_
                            exact ih_n_6183 x_6280 1 x_6284 x_6285 x_6286 x_6287 x_6288 x_6267 x_6268 x_6269 f_6289 f_6279 f_6275 _ _ _ b_x_6285 b_x_6288 b_x_6269 ⟨(om_83b90de5 hi0_n_6183.1 vx_6280), (om_2c69d3de gc_6235 vx_6280)⟩ ⟨(om_1b364b1c kc_1), (om_02032f93 kc_1)⟩ (by assumption) (by rw [show x_6280.toNatClampNeg = z_6170.toNatClampNeg + 1 from (by have q1 := ti_cl (x := x_6280) vx_6280 (om_9548a8fd hi0_n_6183.1); have q2 := ti_cl (x := z_6170) rfl (om_83bd56b0 hi0_n_6183.1); omega)]; exact in9) ⟨(om_216d7917 hi4_n_6183.1 o1_f_6279), (om_216d7917 hi4_n_6183.2.1 o7_f_6279), (om_216d7917 hi4_n_6183.2.2 o8_f_6279)⟩ (fun h9 => by have q0 := kc_0; have q1 := kc_1; omega) e_x_6284_1 (om_dc41b317 hi7_n_6183 e_x_6236_0 e_x_6262_0 e_x_6284_0) (fun h9 => by have q0 := kc_0; have q1 := kc_1; have q9 := e_x_6284_2 (by omega); omega) (ms_lt hm_n_6183 (om_ed22490e vx_6280) (om_36ac28fa gc_6235)) hG hP hD hS (lv_sub hl [0, 1, 4, 5, 6] rfl)
                        · skip
                          have hG := hG.trans (if_neg c_6272)
                          have gc_6272 := ti_ne c_6272 rfl kc_0
                          replace gc_6272 : (-1) * x_6269.toInt + 1 ≤ 0 := by omega
                          exact wq_v hx hb hr 0 trivial (fun t ht hW => ⟨x_6262, x_6263, x_6264, x_6265, x_6266, x_6267, x_6268, x_6269, x_6166, f_6270, f_6181, f_6182, f_6168, b_x_6263, b_x_6266, b_x_6269, (by first | assumption | (have q0 := kc_0; have q1 := kc_1; omega)), e_x_6262_1, (by first | assumption | (have q0 := kc_0; have q1 := kc_1; omega)), (fun h9 => by have q0 := kc_0; have q1 := kc_1; omega), (by first | assumption | (have q0 := kc_0; have q1 := kc_1; omega)), hG, Bw.to hP hD hK ht hW⟩) hS dX7_innerLine_139 hlocks
                    · skip
                      have hG := hG.trans (if_pos c_6235)
                      have gc_6235 := ti_eq c_6235 rfl kc_4
                      refine lv_aload_n hx hb dX7_innerLine_101 rfl (lv_at hl 5 rfl) ?_
                      refine lv_iconst (v := 5) hx hb dX7_innerLine_102 (by decide) ?_
                      refine lv_aload_n hx hb dX7_innerLine_103 rfl (lv_at hl 5 rfl) ?_
                      refine va_get (D := (dC, dI)) (ci := 7) (v := .int z_6172) (C := RX7) (T := TX7) (N := 48) hx hb hts inX7 hown hK hP 0 rfl rfl 4 (by decide) (hts _ wd_384) (fun _ h9 => h9) rfl dX7_innerLine_104 ?_
                      have hMs := ml_of hD [true, false, false, false, false, false] (wc := [(oc7 oM iM_thrown rM_tape iM_taped iM_size z_6172 z_6173 z_6174 z_6175 z_6176 z_6208 z_6209 iM_trouble rM_letters z_6207 iM_hasCourt rM_r rM_fresh rM_told rM_read rM_st rM_undone rM_kept iM_undos iM_images rM_fresher x_6166 iM_scale iM_night rM_heardRow rM_cutRow iM_breaths iM_cutMany iM_allBreaths rM_trial rM_words iM_fewestBreaths iM_orderMany iM_orderSum iM_leastOrder rM_often iM_setMany iM_someOf iM_allOf iM_allWeight iM_enoughWeight iM_worthSum iM_firstRest iM_leastDrawn)]) rfl
                      have hFc := va_freeM hD hS hA _ hMs
                      refine va_callv (va_runV (As := [.int 5, .int z_6172]) (rest := []) ⟨hx, hb, hml, hown, hts⟩ (tX7_wrong l dC dI _ oM iM_thrown rM_tape iM_taped iM_size z_6172 z_6173 z_6174 z_6175 z_6176 z_6208 z_6209 iM_trouble rM_letters z_6207 iM_hasCourt rM_r rM_fresh rM_told rM_read rM_st rM_undone rM_kept iM_undos iM_images rM_fresher x_6166 iM_scale iM_night rM_heardRow rM_cutRow iM_breaths iM_cutMany iM_allBreaths rM_trial rM_words iM_fewestBreaths iM_orderMany iM_orderSum iM_leastOrder rM_often iM_setMany iM_someOf iM_allOf iM_allWeight iM_enoughWeight iM_worthSum iM_firstRest iM_leastDrawn 5 z_6172 b_iM_taped b_iM_size b_z_6173 b_z_6176 b_z_6207 b_iM_hasCourt b_iM_undos b_iM_images b_iM_scale b_iM_breaths b_iM_cutMany (by first | assumption | exact (fun h9 => by have q0 := kc_0; have q1 := kc_1; omega))) (cwV 2 hts (wd_V wd_430 wd_431 wd_432 wd_5 (wd_c wd_433)) rfl rfl rfl dv_yX7_wrong_2 ⟨Nat.le_of_ble_eq_true rfl, Nat.le_of_ble_eq_true rfl⟩) ⟨Pw.fb, recvX7 hK hP (q0 := 0) rfl, fun U hU hW => Pw.to (hP.ms _ hMs) (hD.ms _ hMs) (hK.ms [false, false, false, false, false] rfl) hE hS hFc hU hW⟩ rfl rfl hl.1 rfl (lv_room (Nat.le_of_ble_eq_true rfl)) dX7_innerLine_107 ⟨Nat.le_of_ble_eq_true rfl, Nat.le_of_ble_eq_true rfl⟩) hS (fun q _ h => hFc q h) hFc (fun u t H locs ht hvm hw hB hz1 hk1 hS => ?_)
                      refine ex_3_3 hB (fun x_6290 x_6291 x_6292 b_x_6292 e_x_6290_0 e_x_6290_1 hB => ?_)
                      obtain ⟨hP, hD⟩ := Bw.goN (ws' := [(oc7 oM iM_thrown rM_tape iM_taped iM_size z_6172 z_6173 z_6174 z_6175 z_6176 x_6290 x_6291 iM_trouble rM_letters x_6292 iM_hasCourt rM_r rM_fresh rM_told rM_read rM_st rM_undone rM_kept iM_undos iM_images rM_fresher x_6166 iM_scale iM_night rM_heardRow rM_cutRow iM_breaths iM_cutMany iM_allBreaths rM_trial rM_words iM_fewestBreaths iM_orderMany iM_orderSum iM_leastOrder rM_often iM_setMany iM_someOf iM_allOf iM_allWeight iM_enoughWeight iM_worthSum iM_firstRest iM_leastDrawn), (arI rM_tape kM_tape 900 fM_tape), (arI rM_letters kM_letters 8 f_6180), (arI rM_fresh kM_fresh 287 f_6181), (arI rM_read kM_read 90 f_6182), (arI rM_fresher kM_fresher 8 f_6168)]) hB rfl ht hP hD _ hMs hk1 hFc rfl
                      clear hz1 hk1 hvm ht hB hMs
                      have hG := hG.trans (un3_eq e_x_6290_1)
                      refine lv_aload_n hx hb dX7_innerLine_110 rfl (lv_at hl 5 rfl) ?_
                      have hMs := ml_of hD [true, true, true, false, false, false] (wc := [(oc7 oM iM_thrown rM_tape iM_taped iM_size z_6172 z_6173 z_6174 z_6175 z_6176 x_6290 x_6291 iM_trouble rM_letters x_6292 iM_hasCourt rM_r rM_fresh rM_told rM_read rM_st rM_undone rM_kept iM_undos iM_images rM_fresher x_6166 iM_scale iM_night rM_heardRow rM_cutRow iM_breaths iM_cutMany iM_allBreaths rM_trial rM_words iM_fewestBreaths iM_orderMany iM_orderSum iM_leastOrder rM_often iM_setMany iM_someOf iM_allOf iM_allWeight iM_enoughWeight iM_worthSum iM_firstRest iM_leastDrawn), (arI rM_tape kM_tape 900 fM_tape), (arI rM_letters kM_letters 8 f_6180)]) rfl
                      have hFc := va_freeM hD hS hA _ hMs
                      refine va_callv (va_runV (As := []) (rest := []) ⟨hx, hb, hml, hown, hts⟩ (tX7_pass l dC dI _ oM iM_thrown rM_tape fM_tape kM_tape iM_taped iM_size z_6172 z_6173 z_6174 z_6175 z_6176 x_6290 x_6291 iM_trouble rM_letters f_6180 kM_letters x_6292 iM_hasCourt rM_r rM_fresh rM_told rM_read rM_st rM_undone rM_kept iM_undos iM_images rM_fresher x_6166 iM_scale iM_night rM_heardRow rM_cutRow iM_breaths iM_cutMany iM_allBreaths rM_trial rM_words iM_fewestBreaths iM_orderMany iM_orderSum iM_leastOrder rM_often iM_setMany iM_someOf iM_allOf iM_allWeight iM_enoughWeight iM_worthSum iM_firstRest iM_leastDrawn b_iM_taped b_iM_size b_z_6173 b_z_6176 b_x_6292 b_iM_hasCourt b_iM_undos b_iM_images b_iM_scale b_iM_breaths b_iM_cutMany (by first | assumption | exact (fun h9 => by have q0 := kc_0; have q1 := kc_1; omega))) (cwV 0 hts (wd_V wd_454 wd_455 wd_456 wd_5 (wd_c wd_457)) rfl rfl rfl dv_yX7_pass_0 ⟨Nat.le_of_ble_eq_true rfl, Nat.le_of_ble_eq_true rfl⟩) ⟨Pw.fb, recvX7 hK hP (q0 := 0) rfl, fun U hU hW => Pw.to (hP.ms _ hMs) (hD.ms _ hMs) (hK.ms [true, true, false, false, false] rfl) hE hS hFc hU hW⟩ rfl rfl hl.1 rfl (lv_room (Nat.le_of_ble_eq_true rfl)) dX7_innerLine_111 ⟨Nat.le_of_ble_eq_true rfl, Nat.le_of_ble_eq_true rfl⟩) hS (fun q _ h => hFc q h) hFc (fun u t H locs ht hvm hw hB hz1 hk1 hS => ?_)
                      refine ex_6_6 hB (fun x_6293 x_6294 x_6295 x_6296 x_6297 f_6298 b_x_6294 b_x_6297 e_x_6293_0 e_x_6293_1 e_x_6293_2 e_x_6293_3 hB => ?_)
                      obtain ⟨hP, hD⟩ := Bw.goN (ws' := [(oc7 oM iM_thrown rM_tape iM_taped iM_size x_6293 x_6294 x_6295 x_6296 x_6297 x_6290 x_6291 iM_trouble rM_letters x_6292 iM_hasCourt rM_r rM_fresh rM_told rM_read rM_st rM_undone rM_kept iM_undos iM_images rM_fresher x_6166 iM_scale iM_night rM_heardRow rM_cutRow iM_breaths iM_cutMany iM_allBreaths rM_trial rM_words iM_fewestBreaths iM_orderMany iM_orderSum iM_leastOrder rM_often iM_setMany iM_someOf iM_allOf iM_allWeight iM_enoughWeight iM_worthSum iM_firstRest iM_leastDrawn), (arI rM_tape kM_tape 900 fM_tape), (arI rM_letters kM_letters 8 f_6298), (arI rM_fresh kM_fresh 287 f_6181), (arI rM_read kM_read 90 f_6182), (arI rM_fresher kM_fresher 8 f_6168)]) hB rfl ht hP hD _ hMs hk1 hFc rfl
                      clear hz1 hk1 hvm ht hB hMs
                      have hG := hG.trans (un6_eq e_x_6293_3)
                      clear hi6_n_6183
                      clear hi8_n_6183
                      refine lv_iload_n hx hb dX7_innerLine_114 rfl (lv_at hl 6 rfl) ?_
                      refine lv_iconst (v := 3) hx hb dX7_innerLine_115 (by decide) ?_
                      refine lv_icmp_ne (tgt := 129) hx hb dX7_innerLine_116 (by decide) (fun c_6299 => ?_) (fun c_6299 => ?_)
                      · skip
                        have hG := hG.trans (if_neg c_6299)
                        have gc_6299 := ti_ne c_6299 rfl kc_3
                        replace gc_6299 : p0.toInt + (-2) ≤ 0 := by omega
                        clear hic
                        refine lv_iconst (v := 0) hx hb dX7_innerLine_129 (by decide) ?_
                        refine lv_istore (lv' := [(6, .int 0), (5, .int x_6205), (4, .int z_6171), (3, .int z_6170), (2, .int x_6169), (0, .ref oM), (1, .int p0)]) hx hb dX7_innerLine_130 hl (by decide) rfl (fun ls hl => ?_)
                        refine lv_aload_n hx hb dX7_innerLine_132 rfl (lv_at hl 5 rfl) ?_
                        refine va_get (D := (dC, dI)) (ci := 7) (v := .int x_6292) (C := RX7) (T := TX7) (N := 48) hx hb hts inX7 hown hK hP 0 rfl rfl 13 (by decide) (hts _ wd_380) (fun _ h9 => h9) rfl dX7_innerLine_133 ?_
                        refine lv_if_eq (tgt := 140) hx hb dX7_innerLine_136 (by decide) (fun c_6300 => ?_) (fun c_6300 => ?_)
                        · skip
                          have hG := hG.trans (if_pos c_6300)
                          have gc_6300 := ti_eq c_6300 rfl kc_0
                          exfalso; clear hG; omega
                        · skip
                          have hG := hG.trans (if_neg c_6300)
                          have gc_6300 := ti_ne c_6300 rfl kc_0
                          replace gc_6300 : (-1) * x_6292.toInt + 1 ≤ 0 := by omega
                          exact wq_v hx hb hr 0 trivial (fun t ht hW => ⟨x_6293, x_6294, x_6295, x_6296, x_6297, x_6290, x_6291, x_6292, x_6166, f_6298, f_6181, f_6182, f_6168, b_x_6294, b_x_6297, b_x_6292, (by first | assumption | (have q0 := kc_0; have q1 := kc_1; omega)), e_x_6293_1, (by first | assumption | (have q0 := kc_0; have q1 := kc_1; omega)), (fun h9 => by have q0 := kc_0; have q1 := kc_1; omega), (by first | assumption | (have q0 := kc_0; have q1 := kc_1; omega)), hG, Bw.to hP hD hK ht hW⟩) hS dX7_innerLine_139 hlocks
                      · skip
                        have hG := hG.trans (if_pos c_6299)
                        have gc_6299 := ti_eq c_6299 rfl kc_3
                        have h_6301 := hic (by omega)
                        clear hic
                        refine lv_aload_n hx hb dX7_innerLine_119 rfl (lv_at hl 5 rfl) ?_
                        refine lv_iconst (v := 1) hx hb dX7_innerLine_120 (by decide) ?_
                        refine lv_bipush (v := 9) hx hb dX7_innerLine_121 (by decide) ?_
                        have hMs := ml_of hD [true, true, true, false, false, false] (wc := [(oc7 oM iM_thrown rM_tape iM_taped iM_size x_6293 x_6294 x_6295 x_6296 x_6297 x_6290 x_6291 iM_trouble rM_letters x_6292 iM_hasCourt rM_r rM_fresh rM_told rM_read rM_st rM_undone rM_kept iM_undos iM_images rM_fresher x_6166 iM_scale iM_night rM_heardRow rM_cutRow iM_breaths iM_cutMany iM_allBreaths rM_trial rM_words iM_fewestBreaths iM_orderMany iM_orderSum iM_leastOrder rM_often iM_setMany iM_someOf iM_allOf iM_allWeight iM_enoughWeight iM_worthSum iM_firstRest iM_leastDrawn), (arI rM_tape kM_tape 900 fM_tape), (arI rM_letters kM_letters 8 f_6298)]) rfl
                        have hFc := va_freeM hD hS hA _ hMs
                        refine va_calli (va_runV (As := [.int 1, .int 9]) (rest := []) ⟨hx, hb, hml, hown, hts⟩ (tX7_number l dC dI _ oM iM_thrown rM_tape fM_tape kM_tape iM_taped iM_size x_6293 x_6294 x_6295 x_6296 x_6297 x_6290 x_6291 iM_trouble rM_letters f_6298 kM_letters x_6292 iM_hasCourt rM_r rM_fresh rM_told rM_read rM_st rM_undone rM_kept iM_undos iM_images rM_fresher x_6166 iM_scale iM_night rM_heardRow rM_cutRow iM_breaths iM_cutMany iM_allBreaths rM_trial rM_words iM_fewestBreaths iM_orderMany iM_orderSum iM_leastOrder rM_often iM_setMany iM_someOf iM_allOf iM_allWeight iM_enoughWeight iM_worthSum iM_firstRest iM_leastDrawn 1 9 b_iM_taped b_iM_size b_x_6294 b_x_6297 b_x_6292 b_iM_hasCourt b_iM_undos b_iM_images b_iM_scale b_iM_breaths b_iM_cutMany (by first | assumption | exact (fun h9 => by have q0 := kc_0; have q1 := kc_1; omega)) (om_dc317686 kc_1 kc_9)) (cwV 2 hts (wd_V wd_446 wd_447 wd_448 wd_5 (wd_c wd_449)) rfl rfl rfl dv_yX7_number_2 ⟨Nat.le_of_ble_eq_true rfl, Nat.le_of_ble_eq_true rfl⟩) ⟨Pw.fb, recvX7 hK hP (q0 := 0) rfl, fun U hU hW => Pw.to (hP.ms _ hMs) (hD.ms _ hMs) (hK.ms [true, true, false, false, false] rfl) hE hS hFc hU hW⟩ rfl rfl hl.1 rfl (lv_room (Nat.le_of_ble_eq_true rfl)) dX7_innerLine_123 ⟨Nat.le_of_ble_eq_true rfl, Nat.le_of_ble_eq_true rfl⟩) hS (fun q _ h => hFc q h) hFc (fun r u t H locs ht hvm hw hB hz1 hk1 hS => ?_)
                        have hru9 := hw.2
                        have hw := hw.1
                        refine ex_9_8 hB (fun x_6302 x_6303 x_6304 x_6305 x_6306 x_6307 x_6308 x_6309 f_6310 b_x_6303 b_x_6306 b_x_6309 e_x_6302_0 e_x_6302_1 e_x_6302_2 e_x_6302_3 e_x_6302_4 hB => ?_)
                        obtain ⟨hP, hD⟩ := Bw.goN (ws' := [(oc7 oM iM_thrown rM_tape iM_taped iM_size x_6302 x_6303 x_6304 x_6305 x_6306 x_6307 x_6308 iM_trouble rM_letters x_6309 iM_hasCourt rM_r rM_fresh rM_told rM_read rM_st rM_undone rM_kept iM_undos iM_images rM_fresher x_6166 iM_scale iM_night rM_heardRow rM_cutRow iM_breaths iM_cutMany iM_allBreaths rM_trial rM_words iM_fewestBreaths iM_orderMany iM_orderSum iM_leastOrder rM_often iM_setMany iM_someOf iM_allOf iM_allWeight iM_enoughWeight iM_worthSum iM_firstRest iM_leastDrawn), (arI rM_tape kM_tape 900 fM_tape), (arI rM_letters kM_letters 8 f_6310), (arI rM_fresh kM_fresh 287 f_6181), (arI rM_read kM_read 90 f_6182), (arI rM_fresher kM_fresher 8 f_6168)]) hB rfl ht hP hD _ hMs hk1 hFc rfl
                        clear hz1 hk1 hvm ht hB hMs
                        rw [← hru9] at e_x_6302_4
                        obtain ⟨x_6311, rfl⟩ : ∃ z, z = r := ⟨_, rfl⟩
                        have hG := hG.trans (un10_eq e_x_6302_4)
                        have lx_6311 := hw.2
                        have kl_1 := kc_1
                        have kl_9 := kc_9
                        clear e_x_6293_1
                        clear e_x_6293_2
                        refine lv_goto (tgt := 130) hx hb dX7_innerLine_126 (by decide) ?_
                        refine lv_istore (lv' := [(6, .int x_6311), (5, .int x_6205), (4, .int z_6171), (3, .int z_6170), (2, .int x_6169), (0, .ref oM), (1, .int p0)]) hx hb dX7_innerLine_130 hl (by decide) rfl (fun ls hl => ?_)
                        refine lv_aload_n hx hb dX7_innerLine_132 rfl (lv_at hl 5 rfl) ?_
                        refine va_get (D := (dC, dI)) (ci := 7) (v := .int x_6309) (C := RX7) (T := TX7) (N := 48) hx hb hts inX7 hown hK hP 0 rfl rfl 13 (by decide) (hts _ wd_380) (fun _ h9 => h9) rfl dX7_innerLine_133 ?_
                        refine lv_if_eq (tgt := 140) hx hb dX7_innerLine_136 (by decide) (fun c_6312 => ?_) (fun c_6312 => ?_)
                        · skip
                          have hG := hG.trans (if_pos c_6312)
                          have gc_6312 := ti_eq c_6312 rfl kc_0
                          exfalso; clear hG; omega
                        · skip
                          have hG := hG.trans (if_neg c_6312)
                          have gc_6312 := ti_ne c_6312 rfl kc_0
                          replace gc_6312 : (-1) * x_6309.toInt + 1 ≤ 0 := by omega
                          exact wq_v hx hb hr 0 trivial (fun t ht hW => ⟨x_6302, x_6303, x_6304, x_6305, x_6306, x_6307, x_6308, x_6309, x_6166, f_6310, f_6181, f_6182, f_6168, b_x_6303, b_x_6306, b_x_6309, (by first | assumption | (have q0 := kc_0; have q1 := kc_1; omega)), e_x_6302_1, (by first | assumption | (have q0 := kc_0; have q1 := kc_1; omega)), (fun h9 => by have q0 := kc_0; have q1 := kc_1; omega), (by first | assumption | (have q0 := kc_0; have q1 := kc_1; omega)), hG, Bw.to hP hD hK ht hW⟩) hS dX7_innerLine_139 hlocks
                · skip
                  have hG := hG.trans (if_neg c_6211)
                  have gc_6211 := ti_nle c_6211 rfl rfl
                  refine lv_aload_n hx hb dX7_innerLine_51 rfl (lv_at hl 5 rfl) ?_
                  refine va_get (D := (dC, dI)) (ci := 7) (v := .int z_6207) (C := RX7) (T := TX7) (N := 48) hx hb hts inX7 hown hK hP 0 rfl rfl 13 (by decide) (hts _ wd_380) (fun _ h9 => h9) rfl dX7_innerLine_52 ?_
                  refine lv_if_ne (tgt := 83) hx hb dX7_innerLine_55 (by decide) (fun c_6313 => ?_) (fun c_6313 => ?_)
                  · skip
                    have hG := hG.trans (if_neg c_6313)
                    have gc_6313 := ti_ne c_6313 rfl kc_0
                    replace gc_6313 : (-1) * z_6207.toInt + 1 ≤ 0 := by omega
                    obtain ⟨x_6314, ex_6314⟩ : ∃ z : Int32, z = z_6206 + Int32.ofInt 1 := ⟨_, rfl⟩
                    have hG := hG.trans (lt_eq ex_6314)
                    have vx_6314 : x_6314.toInt = z_6206.toInt + 1 := ti_add (y := 1) ex_6314 rfl kc_1 (om_4e4fce7e hi0_n_6210.1) (om_0ca29412 hi0_n_6183.2 gc_6211)
                    refine lv_iinc (v := x_6314) (lv' := [(6, .int x_6314), (5, .int x_6205), (4, .int z_6171), (3, .int z_6170), (2, .int x_6169), (0, .ref oM), (1, .int p0)]) hx hb dX7_innerLine_83 hl (k := 0) rfl ex_6314.symm (by decide) rfl (fun ls hl => ?_)
                    refine lv_goto (tgt := 45) hx hb dX7_innerLine_86 (by decide) ?_
                    exact ih_n_6210 x_6314 z_6207 z_6208 z_6209 _ _ _ b_z_6207 ⟨(om_83b90de5 hi0_n_6210.1 vx_6314), (om_afcf07ef gc_6211 vx_6314)⟩ (om_464b2193 hi1_n_6210) (show NeI _ _ _ _ _ from fun h9 i9 hi9 => by by_cases e9 : i9 = z_6206.toNatClampNeg; (rw [e9]; omega); exact hi2_n_6210 (by omega) i9 (by have q1 := ti_cl (x := x_6314) vx_6314 (om_9548a8fd hi0_n_6210.1); have q2 := ti_cl (x := z_6206) rfl (om_83bd56b0 hi0_n_6210.1); omega)) (ms_lt hm_n_6210 (om_dd4ae0bc vx_6314) (om_d5382009 gc_6211)) hG hP hD hS (lv_sub hl [0, 1, 2, 3, 4, 5, 6] rfl)
                  · skip
                    have hG := hG.trans (if_pos c_6313)
                    have gc_6313 := ti_eq c_6313 rfl kc_0
                    have h_6315 := e_x_6202_1 (by omega)
                    clear e_x_6202_1
                    have h_6316 := lx_6205.2.1 (by omega)
                    refine lv_aload_n hx hb dX7_innerLine_58 rfl (lv_at hl 5 rfl) ?_
                    refine va_get (D := (dC, dI)) (ci := 7) (v := .ref rM_read) (C := RX7) (T := TX7) (N := 48) hx hb hts inX7 hown hK hP 0 rfl rfl 18 (by decide) (hts _ wd_158) (fun _ h9 => h9) rfl dX7_innerLine_59 ?_
                    refine lv_iconst (v := 4) hx hb dX7_innerLine_62 (by decide) ?_
                    refine lv_iload_n hx hb dX7_innerLine_63 rfl (lv_at hl 4 rfl) ?_
                    refine lv_imul hx hb dX7_innerLine_64 ?_
                    refine lv_topi (fun x_6317 ex_6317 => ?_)
                    have hG := hG.trans (lt_eq ex_6317)
                    have vx_6317 : x_6317.toInt = 4 * x_6169.toInt := by have q := ti_mul ex_6317 kc_4 rfl (by omega) (by omega); omega
                    refine lv_iload hx hb dX7_innerLine_65 (lv_at hl 0 rfl) ?_
                    refine lv_iadd hx hb dX7_innerLine_67 ?_
                    refine lv_topi (fun x_6318 ex_6318 => ?_)
                    have hG := hG.trans (lt_eq ex_6318)
                    have vx_6318 : x_6318.toInt = 4 * x_6169.toInt + z_6206.toInt := by have q := ti_add ex_6318 vx_6317 rfl (by omega) (by omega); omega
                    refine va_iald hx hb hK hP 4 3 rfl rfl (ti_in vx_6318 (by omega) (by omega)) dX7_innerLine_68 ?_
                    refine lv_topi (fun x_6319 ex_6319 => ?_)
                    have hG := hG.trans (lt_eq ex_6319)
                    have kx_6319 : (f_6182 x_6318.toNatClampNeg).toInt = x_6319.toInt := by rw [ex_6319]
                    have cx_6319 : (f_6182 (4 * x_6169.toNatClampNeg + z_6206.toNatClampNeg)).toInt = x_6319.toInt := by rw [show 4 * x_6169.toNatClampNeg + z_6206.toNatClampNeg = x_6318.toNatClampNeg from by have q9 := ti_cl (x := x_6318) vx_6318 (by omega); have q_x_6169 := ti_cl (x := x_6169) rfl (by omega); have q_z_6206 := ti_cl (x := z_6206) rfl (om_83bd56b0 hi0_n_6210.1); omega]; exact kx_6319
                    refine lv_iload hx hb dX7_innerLine_69 (lv_at hl 1 rfl) ?_
                    refine lv_icmp_ne (tgt := 83) hx hb dX7_innerLine_71 (by decide) (fun c_6320 => ?_) (fun c_6320 => ?_)
                    · skip
                      have hG := hG.trans (if_neg c_6320)
                      have gc_6320 := ti_ne c_6320 rfl rfl
                      obtain ⟨x_6321, ex_6321⟩ : ∃ z : Int32, z = z_6206 + Int32.ofInt 1 := ⟨_, rfl⟩
                      have hG := hG.trans (lt_eq ex_6321)
                      have vx_6321 : x_6321.toInt = z_6206.toInt + 1 := ti_add (y := 1) ex_6321 rfl kc_1 (om_4e4fce7e hi0_n_6210.1) (om_0ca29412 hi0_n_6183.2 gc_6211)
                      refine lv_iinc (v := x_6321) (lv' := [(6, .int x_6321), (5, .int x_6205), (4, .int z_6171), (3, .int z_6170), (2, .int x_6169), (0, .ref oM), (1, .int p0)]) hx hb dX7_innerLine_83 hl (k := 0) rfl ex_6321.symm (by decide) rfl (fun ls hl => ?_)
                      refine lv_goto (tgt := 45) hx hb dX7_innerLine_86 (by decide) ?_
                      exact ih_n_6210 x_6321 z_6207 z_6208 z_6209 _ _ _ b_z_6207 ⟨(om_83b90de5 hi0_n_6210.1 vx_6321), (om_afcf07ef gc_6211 vx_6321)⟩ (om_464b2193 hi1_n_6210) (show NeI _ _ _ _ _ from fun h9 i9 hi9 => by by_cases e9 : i9 = z_6206.toNatClampNeg; (rw [e9]; omega); exact hi2_n_6210 (by omega) i9 (by have q1 := ti_cl (x := x_6321) vx_6321 (om_9548a8fd hi0_n_6210.1); have q2 := ti_cl (x := z_6206) rfl (om_83bd56b0 hi0_n_6210.1); omega)) (ms_lt hm_n_6210 (om_dd4ae0bc vx_6321) (om_d5382009 gc_6211)) hG hP hD hS (lv_sub hl [0, 1, 2, 3, 4, 5, 6] rfl)
                    · skip
                      have hG := hG.trans (if_pos c_6320)
                      have gc_6320 := ti_eq c_6320 rfl rfl
                      refine lv_aload_n hx hb dX7_innerLine_74 rfl (lv_at hl 5 rfl) ?_
                      refine lv_iconst (v := 3) hx hb dX7_innerLine_75 (by decide) ?_
                      refine lv_aload_n hx hb dX7_innerLine_76 rfl (lv_at hl 5 rfl) ?_
                      refine va_get (D := (dC, dI)) (ci := 7) (v := .int z_6172) (C := RX7) (T := TX7) (N := 48) hx hb hts inX7 hown hK hP 0 rfl rfl 4 (by decide) (hts _ wd_384) (fun _ h9 => h9) rfl dX7_innerLine_77 ?_
                      have hMs := ml_of hD [true, false, false, false, false, false] (wc := [(oc7 oM iM_thrown rM_tape iM_taped iM_size z_6172 z_6173 z_6174 z_6175 z_6176 z_6208 z_6209 iM_trouble rM_letters z_6207 iM_hasCourt rM_r rM_fresh rM_told rM_read rM_st rM_undone rM_kept iM_undos iM_images rM_fresher x_6166 iM_scale iM_night rM_heardRow rM_cutRow iM_breaths iM_cutMany iM_allBreaths rM_trial rM_words iM_fewestBreaths iM_orderMany iM_orderSum iM_leastOrder rM_often iM_setMany iM_someOf iM_allOf iM_allWeight iM_enoughWeight iM_worthSum iM_firstRest iM_leastDrawn)]) rfl
                      have hFc := va_freeM hD hS hA _ hMs
                      refine va_callv (va_runV (As := [.int 3, .int z_6172]) (rest := []) ⟨hx, hb, hml, hown, hts⟩ (tX7_wrong l dC dI _ oM iM_thrown rM_tape iM_taped iM_size z_6172 z_6173 z_6174 z_6175 z_6176 z_6208 z_6209 iM_trouble rM_letters z_6207 iM_hasCourt rM_r rM_fresh rM_told rM_read rM_st rM_undone rM_kept iM_undos iM_images rM_fresher x_6166 iM_scale iM_night rM_heardRow rM_cutRow iM_breaths iM_cutMany iM_allBreaths rM_trial rM_words iM_fewestBreaths iM_orderMany iM_orderSum iM_leastOrder rM_often iM_setMany iM_someOf iM_allOf iM_allWeight iM_enoughWeight iM_worthSum iM_firstRest iM_leastDrawn 3 z_6172 b_iM_taped b_iM_size b_z_6173 b_z_6176 b_z_6207 b_iM_hasCourt b_iM_undos b_iM_images b_iM_scale b_iM_breaths b_iM_cutMany (by first | assumption | exact (fun h9 => by have q0 := kc_0; have q1 := kc_1; omega))) (cwV 2 hts (wd_V wd_430 wd_431 wd_432 wd_5 (wd_c wd_433)) rfl rfl rfl dv_yX7_wrong_2 ⟨Nat.le_of_ble_eq_true rfl, Nat.le_of_ble_eq_true rfl⟩) ⟨Pw.fb, recvX7 hK hP (q0 := 0) rfl, fun U hU hW => Pw.to (hP.ms _ hMs) (hD.ms _ hMs) (hK.ms [false, false, false, false, false] rfl) hE hS hFc hU hW⟩ rfl rfl hl.1 rfl (lv_room (Nat.le_of_ble_eq_true rfl)) dX7_innerLine_80 ⟨Nat.le_of_ble_eq_true rfl, Nat.le_of_ble_eq_true rfl⟩) hS (fun q _ h => hFc q h) hFc (fun u t H locs ht hvm hw hB hz1 hk1 hS => ?_)
                      refine ex_3_3 hB (fun x_6322 x_6323 x_6324 b_x_6324 e_x_6322_0 e_x_6322_1 hB => ?_)
                      obtain ⟨hP, hD⟩ := Bw.goN (ws' := [(oc7 oM iM_thrown rM_tape iM_taped iM_size z_6172 z_6173 z_6174 z_6175 z_6176 x_6322 x_6323 iM_trouble rM_letters x_6324 iM_hasCourt rM_r rM_fresh rM_told rM_read rM_st rM_undone rM_kept iM_undos iM_images rM_fresher x_6166 iM_scale iM_night rM_heardRow rM_cutRow iM_breaths iM_cutMany iM_allBreaths rM_trial rM_words iM_fewestBreaths iM_orderMany iM_orderSum iM_leastOrder rM_often iM_setMany iM_someOf iM_allOf iM_allWeight iM_enoughWeight iM_worthSum iM_firstRest iM_leastDrawn), (arI rM_tape kM_tape 900 fM_tape), (arI rM_letters kM_letters 8 f_6180), (arI rM_fresh kM_fresh 287 f_6181), (arI rM_read kM_read 90 f_6182), (arI rM_fresher kM_fresher 8 f_6168)]) hB rfl ht hP hD _ hMs hk1 hFc rfl
                      clear hz1 hk1 hvm ht hB hMs
                      have hG := hG.trans (un3_eq e_x_6322_1)
                      obtain ⟨x_6325, ex_6325⟩ : ∃ z : Int32, z = z_6206 + Int32.ofInt 1 := ⟨_, rfl⟩
                      have hG := hG.trans (lt_eq ex_6325)
                      have vx_6325 : x_6325.toInt = z_6206.toInt + 1 := ti_add (y := 1) ex_6325 rfl kc_1 (om_4e4fce7e hi0_n_6210.1) (om_0ca29412 hi0_n_6183.2 gc_6211)
                      refine lv_iinc (v := x_6325) (lv' := [(6, .int x_6325), (5, .int x_6205), (4, .int z_6171), (3, .int z_6170), (2, .int x_6169), (0, .ref oM), (1, .int p0)]) hx hb dX7_innerLine_83 hl (k := 0) rfl ex_6325.symm (by decide) rfl (fun ls hl => ?_)
                      refine lv_goto (tgt := 45) hx hb dX7_innerLine_86 (by decide) ?_
                      exact ih_n_6210 x_6325 x_6324 x_6322 x_6323 _ _ _ b_x_6324 ⟨(om_83b90de5 hi0_n_6210.1 vx_6325), (om_afcf07ef gc_6211 vx_6325)⟩ (om_00f1c5dd b_x_6204.2 e_x_6322_0) (show NeI _ _ _ _ _ from fun h9 i9 hi9 => by by_cases e9 : i9 = z_6206.toNatClampNeg; (rw [e9]; omega); exact hi2_n_6210 (by omega) i9 (by have q1 := ti_cl (x := x_6325) vx_6325 (om_9548a8fd hi0_n_6210.1); have q2 := ti_cl (x := z_6206) rfl (om_83bd56b0 hi0_n_6210.1); omega)) (ms_lt hm_n_6210 (om_dd4ae0bc vx_6325) (om_d5382009 gc_6211)) hG hP hD hS (lv_sub hl [0, 1, 2, 3, 4, 5, 6] rfl)
            exact key_n_6210 (((z_6170.toInt - (0 : Int32).toInt).toNat) + 1) 0 x_6204 x_6202 x_6203 _ _ _ b_x_6204 ⟨(om_b1de7dbe kc_0), (om_2dfe280d hi0_n_6183.1 kc_0)⟩ om_1cb5f934 (show NeI _ _ _ _ _ from fun _ i9 hi9 => absurd hi9 (Nat.not_lt_zero i9)) (Nat.lt_add_one _) hG hP hD hS hl
    exact key_n_6183 (((4 - (0 : Int32).toInt).toNat) + 1) 0 1 x_6158 x_6159 x_6160 x_6161 x_6162 x_6163 x_6164 x_6165 f_6167 fM_fresh fM_read _ _ _ b_x_6159 b_x_6162 b_x_6165 ⟨(om_b1de7dbe kc_0), (om_bebe011a kc_0)⟩ ⟨(om_1b364b1c kc_1), (om_02032f93 kc_1)⟩ (by assumption) in_zero ⟨rfl, rfl, rfl⟩ (fun h9 => by have q0 := kc_0; have q1 := kc_1; omega) e_x_6158_1 (om_464b2193 e_x_6158_0) (fun h9 => by have q0 := kc_0; have q1 := kc_1; have q9 := e_x_6158_3 (by omega); omega) (Nat.lt_add_one _) hG hP hD hS hl
  · skip
    have hG := hG.trans (if_neg c_6156)
    have gc_6156 := ti_ne c_6156 rfl kc_0
    replace gc_6156 : (-1) * iM_failed.toInt + 1 ≤ 0 := by omega
    clear hil
    clear hic
    exact wq_v hx hb hr 0 trivial (fun t ht hW => ⟨iM_at, iM_end, iM_token, iM_whole, iM_nameSize, iM_fault, iM_place, iM_failed, iM_fresherSize, fM_letters, fM_fresh, fM_read, fM_fresher, ⟨(om_83bd56b0 b_iM_end.1), (om_86cc1957 b_iM_end.2)⟩, ⟨(om_83bd56b0 b_iM_nameSize.1), (om_86cc1957 b_iM_nameSize.2)⟩, ⟨(om_a17d3f86 gc_6156), (om_1ee2cc59 b_iM_failed.2)⟩, (by first | assumption | (have q0 := kc_0; have q1 := kc_1; omega)), r_T, (by first | assumption | (have q0 := kc_0; have q1 := kc_1; omega)), (fun h9 => by have q0 := kc_0; have q1 := kc_1; omega), (by first | assumption | (have q0 := kc_0; have q1 := kc_1; omega)), hG, Bw.to hP hD hK ht hW⟩) hS dX7_innerLine_7 hlocks
