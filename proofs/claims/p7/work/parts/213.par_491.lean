set_option maxHeartbeats 4000000 in
set_option maxRecDepth 100000 in
theorem tX7_innerLine (l : Launch) (dC : Nat → ClassId) (dI : Nat → Nat → Nat) (sz : Nat) (oM : Nat) (iM_thrown : Int32) (rM_tape : Nat) (fM_tape : Nat → Int32) (kM_tape : ClassId) (iM_taped : Int32) (iM_size : Int32) (iM_at : Int32) (iM_end : Int32) (iM_token : Int32) (iM_whole : Int32) (iM_nameSize : Int32) (iM_fault : Int32) (iM_place : Int32) (iM_trouble : Int32) (rM_letters : Nat) (fM_letters : Nat → Int32) (kM_letters : ClassId) (iM_failed : Int32) (iM_hasCourt : Int32) (rM_r : Nat) (rM_fresh : Nat) (fM_fresh : Nat → Int32) (kM_fresh : ClassId) (rM_told : Nat) (rM_read : Nat) (fM_read : Nat → Int32) (kM_read : ClassId) (rM_st : Nat) (rM_undone : Nat) (rM_kept : Nat) (iM_undos : Int32) (iM_images : Int32) (rM_fresher : Nat) (fM_fresher : Nat → Int32) (kM_fresher : ClassId) (iM_fresherSize : Int32) (iM_scale : Int32) (iM_night : Int32) (rM_heardRow : Nat) (rM_cutRow : Nat) (iM_breaths : Int32) (iM_cutMany : Int32) (iM_allBreaths : Int32) (rM_trial : Nat) (rM_words : Nat) (iM_fewestBreaths : Int32) (iM_orderMany : Int32) (iM_orderSum : Int32) (iM_leastOrder : Int32) (rM_often : Nat) (iM_setMany : Int32) (iM_someOf : Int32) (iM_allOf : Int32) (iM_allWeight : Int64) (iM_enoughWeight : Int64) (iM_worthSum : Int64) (iM_firstRest : Int32) (iM_leastDrawn : Int32) (p0 : Int32) (b_iM_taped : 0 ≤ iM_taped.toInt ∧ iM_taped.toInt ≤ 900) (b_iM_size : 0 ≤ iM_size.toInt ∧ iM_size.toInt ≤ 900) (b_iM_end : 0 ≤ iM_end.toInt ∧ iM_end.toInt ≤ 900) (b_iM_nameSize : 0 ≤ iM_nameSize.toInt ∧ iM_nameSize.toInt ≤ 900) (b_iM_failed : 0 ≤ iM_failed.toInt ∧ iM_failed.toInt ≤ 1) (b_iM_hasCourt : 0 ≤ iM_hasCourt.toInt ∧ iM_hasCourt.toInt ≤ 1) (b_iM_undos : 0 ≤ iM_undos.toInt ∧ iM_undos.toInt ≤ 16) (b_iM_images : 0 ≤ iM_images.toInt ∧ iM_images.toInt ≤ 3) (b_iM_scale : 1 ≤ iM_scale.toInt ∧ iM_scale.toInt ≤ 1296) (b_iM_breaths : 0 ≤ iM_breaths.toInt ∧ iM_breaths.toInt ≤ 399) (b_iM_cutMany : 0 ≤ iM_cutMany.toInt ∧ iM_cutMany.toInt ≤ 399) (r_T : ImpP (iM_token.toInt = 2) (iM_nameSize.toInt ≤ 8)) (r_P : POk fM_fresh fM_read) (hp0 : 1 ≤ p0.toInt ∧ p0.toInt ≤ 3) (hil : ImpP (iM_failed.toInt ≤ 0) ((fM_fresh 7).toInt ≤ 7)) (hic : ImpP (iM_failed.toInt ≤ 0 ∧ p0.toInt = 3) ((fM_fresh 8).toInt ≤ 1)) : Met l yX7_innerLine (Cond.code yX7_innerLine cX7_innerLine 7 none :: wG) ({ frames := 7, cells := 0, slots := 0, locals := 175 }) (va_Pc [.ref oM, .int p0] (Pw dC dI sz [(oc7 oM iM_thrown rM_tape iM_taped iM_size iM_at iM_end iM_token iM_whole iM_nameSize iM_fault iM_place iM_trouble rM_letters iM_failed iM_hasCourt rM_r rM_fresh rM_told rM_read rM_st rM_undone rM_kept iM_undos iM_images rM_fresher iM_fresherSize iM_scale iM_night rM_heardRow rM_cutRow iM_breaths iM_cutMany iM_allBreaths rM_trial rM_words iM_fewestBreaths iM_orderMany iM_orderSum iM_leastOrder rM_often iM_setMany iM_someOf iM_allOf iM_allWeight iM_enoughWeight iM_worthSum iM_firstRest iM_leastDrawn), (arI rM_tape kM_tape 900 fM_tape), (arI rM_letters kM_letters 8 fM_letters), (arI rM_fresh kM_fresh 287 fM_fresh), (arI rM_read kM_read 90 fM_read), (arI rM_fresher kM_fresher 8 fM_fresher)] [(kM_tape, .int), (kM_letters, .int), (kM_fresh, .int), (kM_read, .int), (kM_fresher, .int)])) (va_Qv (fun (_ : Nat) => True) (fun (_ : Nat) (t : State) => ∃ (niM_at : Int32) (niM_end : Int32) (niM_token : Int32) (niM_whole : Int32) (niM_nameSize : Int32) (niM_fault : Int32) (niM_place : Int32) (niM_failed : Int32) (niM_fresherSize : Int32) (nfM_letters : Nat → Int32) (nfM_fresh : Nat → Int32) (nfM_read : Nat → Int32) (nfM_fresher : Nat → Int32), (0 ≤ niM_end.toInt ∧ niM_end.toInt ≤ 900) ∧ (0 ≤ niM_nameSize.toInt ∧ niM_nameSize.toInt ≤ 900) ∧ (0 ≤ niM_failed.toInt ∧ niM_failed.toInt ≤ 1) ∧ (iM_end.toInt ≤ niM_end.toInt) ∧ (ImpP (niM_token.toInt = 2) (niM_nameSize.toInt ≤ 8)) ∧ (iM_failed.toInt ≤ niM_failed.toInt) ∧ (ImpP (niM_failed.toInt ≤ 0 ∧ niM_token.toInt = 59 ) (iM_end.toInt + 1 ≤ niM_end.toInt)) ∧ (POk nfM_fresh nfM_read) ∧ (PX7_innerLine fM_tape iM_size iM_at iM_end iM_token iM_whole iM_nameSize iM_fault iM_place fM_letters iM_failed fM_fresh fM_read fM_fresher iM_fresherSize p0 = (niM_at, niM_end, niM_token, niM_whole, niM_nameSize, niM_fault, niM_place, niM_failed, niM_fresherSize, nfM_letters, nfM_fresh, nfM_read, nfM_fresher)) ∧ Bw dC dI (va_A [(oc7 oM iM_thrown rM_tape iM_taped iM_size iM_at iM_end iM_token iM_whole iM_nameSize iM_fault iM_place iM_trouble rM_letters iM_failed iM_hasCourt rM_r rM_fresh rM_told rM_read rM_st rM_undone rM_kept iM_undos iM_images rM_fresher iM_fresherSize iM_scale iM_night rM_heardRow rM_cutRow iM_breaths iM_cutMany iM_allBreaths rM_trial rM_words iM_fewestBreaths iM_orderMany iM_orderSum iM_leastOrder rM_often iM_setMany iM_someOf iM_allOf iM_allWeight iM_enoughWeight iM_worthSum iM_firstRest iM_leastDrawn), (arI rM_tape kM_tape 900 fM_tape), (arI rM_letters kM_letters 8 fM_letters), (arI rM_fresh kM_fresh 287 fM_fresh), (arI rM_read kM_read 90 fM_read), (arI rM_fresher kM_fresher 8 fM_fresher)] sz) [(oc7 oM iM_thrown rM_tape iM_taped iM_size niM_at niM_end niM_token niM_whole niM_nameSize niM_fault niM_place iM_trouble rM_letters niM_failed iM_hasCourt rM_r rM_fresh rM_told rM_read rM_st rM_undone rM_kept iM_undos iM_images rM_fresher niM_fresherSize iM_scale iM_night rM_heardRow rM_cutRow iM_breaths iM_cutMany iM_allBreaths rM_trial rM_words iM_fewestBreaths iM_orderMany iM_orderSum iM_leastOrder rM_often iM_setMany iM_someOf iM_allOf iM_allWeight iM_enoughWeight iM_worthSum iM_firstRest iM_leastDrawn), (arI rM_tape kM_tape 900 fM_tape), (arI rM_letters kM_letters 8 nfM_letters), (arI rM_fresh kM_fresh 287 nfM_fresh), (arI rM_read kM_read 90 nfM_read), (arI rM_fresher kM_fresher 8 nfM_fresher)] [(kM_tape, .int), (kM_letters, .int), (kM_fresh, .int), (kM_read, .int), (kM_fresher, .int)] t) (va_A [(oc7 oM iM_thrown rM_tape iM_taped iM_size iM_at iM_end iM_token iM_whole iM_nameSize iM_fault iM_place iM_trouble rM_letters iM_failed iM_hasCourt rM_r rM_fresh rM_told rM_read rM_st rM_undone rM_kept iM_undos iM_images rM_fresher iM_fresherSize iM_scale iM_night rM_heardRow rM_cutRow iM_breaths iM_cutMany iM_allBreaths rM_trial rM_words iM_fewestBreaths iM_orderMany iM_orderSum iM_leastOrder rM_often iM_setMany iM_someOf iM_allOf iM_allWeight iM_enoughWeight iM_worthSum iM_firstRest iM_leastDrawn), (arI rM_tape kM_tape 900 fM_tape), (arI rM_letters kM_letters 8 fM_letters), (arI rM_fresh kM_fresh 287 fM_fresh), (arI rM_read kM_read 90 fM_read), (arI rM_fresher kM_fresher 8 fM_fresher)] sz)) 0 0 (va_A [(oc7 oM iM_thrown rM_tape iM_taped iM_size iM_at iM_end iM_token iM_whole iM_nameSize iM_fault iM_place iM_trouble rM_letters iM_failed iM_hasCourt rM_r rM_fresh rM_told rM_read rM_st rM_undone rM_kept iM_undos iM_images rM_fresher iM_fresherSize iM_scale iM_night rM_heardRow rM_cutRow iM_breaths iM_cutMany iM_allBreaths rM_trial rM_words iM_fewestBreaths iM_orderMany iM_orderSum iM_leastOrder rM_often iM_setMany iM_someOf iM_allOf iM_allWeight iM_enoughWeight iM_worthSum iM_firstRest iM_leastDrawn), (arI rM_tape kM_tape 900 fM_tape), (arI rM_letters kM_letters 8 fM_letters), (arI rM_fresh kM_fresh 287 fM_fresh), (arI rM_read kM_read 90 fM_read), (arI rM_fresher kM_fresher 8 fM_fresher)] sz) := by
  refine Met.ofW (cc := cX7_innerLine) (maxL := 7) (ret := none) (by decide) rfl ?_
  intro p e s m args below meth c s₁ B hml hv
  obtain ⟨rfl, hsz, hP, hK, hD0, hE⟩ := hv
  have hx := B.exec
  have hb := B.bytes
  have hr := B.returns
  have hts : ∀ w ∈ wG, w.before ([.ref oM, .int p0] : List Value).toArray s = true := fun w h => atoms_spec (ws := Cond.code yX7_innerLine cX7_innerLine 7 none :: wG) B.pre w (List.mem_cons_of_mem _ h)
  have hown : s.vm.findClass RX7 = some m.cls := findClass_of_methodNamed B.named
  have hlocks := B.notSynchronized
  subst hsz
  have hD := hD0.self (sz := s.heap.size)
  generalize hAe : va_A [(oc7 oM iM_thrown rM_tape iM_taped iM_size iM_at iM_end iM_token iM_whole iM_nameSize iM_fault iM_place iM_trouble rM_letters iM_failed iM_hasCourt rM_r rM_fresh rM_told rM_read rM_st rM_undone rM_kept iM_undos iM_images rM_fresher iM_fresherSize iM_scale iM_night rM_heardRow rM_cutRow iM_breaths iM_cutMany iM_allBreaths rM_trial rM_words iM_fewestBreaths iM_orderMany iM_orderSum iM_leastOrder rM_often iM_setMany iM_someOf iM_allOf iM_allWeight iM_enoughWeight iM_worthSum iM_firstRest iM_leastDrawn), (arI rM_tape kM_tape 900 fM_tape), (arI rM_letters kM_letters 8 fM_letters), (arI rM_fresh kM_fresh 287 fM_fresh), (arI rM_read kM_read 90 fM_read), (arI rM_fresher kM_fresher 8 fM_fresher)] s.heap.size = A at hD hE ⊢
  have hA : ∀ q : Nat, s.heap.size ≤ q → A q := fun q h => by rw [← hAe]; exact Or.inr h
  have hS : va_S A s.heap s.heap [] := va_S.rf
  have hl := lv_entry ([.ref oM, .int p0]) (n := 7) (Nat.le_of_ble_eq_true rfl)
  rw [lg_entry_eq]
  generalize (lg_sl ([.ref oM, .int p0]) ++ List.replicate (7 - (lg_sl ([.ref oM, .int p0])).length) Slot.unset).toArray = ls at hl ⊢
  have hl : lv_has ls 7 [(0, .ref oM), (1, .int p0)] := hl
  have hG := PX7_innerLine_eq fM_tape iM_size iM_at iM_end iM_token iM_whole iM_nameSize iM_fault iM_place fM_letters iM_failed fM_fresh fM_read fM_fresher iM_fresherSize p0
  have pl_fM_fresh := r_P.lins
  refine lv_aload_n hx hb dX7_innerLine_0 rfl (lv_at hl 0 rfl) ?_
  refine va_get (D := (dC, dI)) (ci := 7) (v := .int iM_failed) (C := RX7) (T := TX7) (N := 48) hx hb hts inX7 hown hK hP 0 rfl rfl 13 (by decide) (hts _ wd_380) (fun _ h9 => h9) rfl dX7_innerLine_1 ?_
  refine lv_if_eq (tgt := 8) hx hb dX7_innerLine_4 (by decide) (fun c_6166 => ?_) (fun c_6166 => ?_)
  · skip
    have hG := hG.trans (if_pos c_6166)
    have gc_6166 := ti_eq c_6166 rfl kc_0
    have h_6167 := hil (by omega)
    clear hil
    refine lv_aload_n hx hb dX7_innerLine_8 rfl (lv_at hl 0 rfl) ?_
    have hFc := va_free (wc := [(oc7 oM iM_thrown rM_tape iM_taped iM_size iM_at iM_end iM_token iM_whole iM_nameSize iM_fault iM_place iM_trouble rM_letters iM_failed iM_hasCourt rM_r rM_fresh rM_told rM_read rM_st rM_undone rM_kept iM_undos iM_images rM_fresher iM_fresherSize iM_scale iM_night rM_heardRow rM_cutRow iM_breaths iM_cutMany iM_allBreaths rM_trial rM_words iM_fewestBreaths iM_orderMany iM_orderSum iM_leastOrder rM_often iM_setMany iM_someOf iM_allOf iM_allWeight iM_enoughWeight iM_worthSum iM_firstRest iM_leastDrawn), (arI rM_tape kM_tape 900 fM_tape), (arI rM_letters kM_letters 8 fM_letters), (arI rM_fresh kM_fresh 287 fM_fresh), (arI rM_read kM_read 90 fM_read), (arI rM_fresher kM_fresher 8 fM_fresher)]) hD hS hA [0, 1, 2, 3, 4, 5] rfl
    refine va_callv (va_runV (As := []) (rest := []) ⟨hx, hb, hml, hown, hts⟩ (tX7_newName l dC dI _ oM iM_thrown rM_tape fM_tape kM_tape iM_taped iM_size iM_at iM_end iM_token iM_whole iM_nameSize iM_fault iM_place iM_trouble rM_letters fM_letters kM_letters iM_failed iM_hasCourt rM_r rM_fresh fM_fresh kM_fresh rM_told rM_read fM_read kM_read rM_st rM_undone rM_kept iM_undos iM_images rM_fresher fM_fresher kM_fresher iM_fresherSize iM_scale iM_night rM_heardRow rM_cutRow iM_breaths iM_cutMany iM_allBreaths rM_trial rM_words iM_fewestBreaths iM_orderMany iM_orderSum iM_leastOrder rM_often iM_setMany iM_someOf iM_allOf iM_allWeight iM_enoughWeight iM_worthSum iM_firstRest iM_leastDrawn (by first | omega | decide) (by first | omega | decide) (by first | omega | decide) (by first | omega | decide) (by first | omega | decide) (by first | omega | decide) (by first | omega | decide) (by first | omega | decide) (by first | omega | decide) (by first | omega | decide) (by first | omega | decide) (by first | assumption | exact (fun h9 => by have q0 := kc_0; have q1 := kc_1; omega)) (by assumption)) (cwV 0 hts (wd_V wd_462 wd_463 wd_464 wd_5 (wd_c wd_465)) rfl rfl rfl (by decide +kernel) ⟨Nat.le_of_ble_eq_true rfl, Nat.le_of_ble_eq_true rfl⟩) ⟨Pw.fb, va_recv hK hP (ci := 7) (q0 := 0) rfl rfl, fun U hU hW => Pw.to (hP.sub [0, 1, 2, 3, 4, 5] rfl) (hD.sub [0, 1, 2, 3, 4, 5] (by decide) rfl) (hK.sub [0, 1, 2, 3, 4] rfl) hE hS hFc hU hW⟩ rfl rfl hl.1 rfl (lv_room (Nat.le_of_ble_eq_true rfl)) dX7_innerLine_9 ⟨Nat.le_of_ble_eq_true rfl, Nat.le_of_ble_eq_true rfl⟩) hS (fun q _ h => hFc q h) hFc (fun u t H locs ht hvm hw hB hz1 hk1 hS => ?_)
    obtain ⟨x_6168, x_6169, x_6170, x_6171, x_6172, x_6173, x_6174, x_6175, x_6176, f_6177, f_6178, b_x_6169, b_x_6172, b_x_6175, e_x_6168_0, e_x_6168_1, e_x_6168_2, e_x_6168_3, e_x_6168_4, hB⟩ := hB
    obtain ⟨hP, hD, hK⟩ := Bw.go (ws' := [(oc7 oM iM_thrown rM_tape iM_taped iM_size x_6168 x_6169 x_6170 x_6171 x_6172 x_6173 x_6174 iM_trouble rM_letters x_6175 iM_hasCourt rM_r rM_fresh rM_told rM_read rM_st rM_undone rM_kept iM_undos iM_images rM_fresher x_6176 iM_scale iM_night rM_heardRow rM_cutRow iM_breaths iM_cutMany iM_allBreaths rM_trial rM_words iM_fewestBreaths iM_orderMany iM_orderSum iM_leastOrder rM_often iM_setMany iM_someOf iM_allOf iM_allWeight iM_enoughWeight iM_worthSum iM_firstRest iM_leastDrawn), (arI rM_tape kM_tape 900 fM_tape), (arI rM_letters kM_letters 8 f_6177), (arI rM_fresh kM_fresh 287 fM_fresh), (arI rM_read kM_read 90 fM_read), (arI rM_fresher kM_fresher 8 f_6178)]) (tys' := [(kM_tape, .int), (kM_letters, .int), (kM_fresh, .int), (kM_read, .int), (kM_fresher, .int)]) hB rfl ht hvm hP hD hK [0, 1, 2, 3, 4, 5] [] rfl (by decide) (by decide) [] hk1 hFc rfl rfl rfl
    clear hz1 hk1 hvm ht hB
    have hG := hG.trans (un11_eq e_x_6168_4)
    clear r_T
    refine lv_aload_n hx hb dX7_innerLine_12 rfl (lv_at hl 0 rfl) ?_
    refine va_get (D := (dC, dI)) (ci := 7) (v := .ref rM_fresh) (C := RX7) (T := TX7) (N := 48) hx hb hts inX7 hown hK hP 0 rfl rfl 16 (by decide) (hts _ wd_156) (fun _ h9 => h9) rfl dX7_innerLine_13 ?_
    refine lv_iconst (v := 1) hx hb dX7_innerLine_16 (by decide) ?_
    refine va_iald hx hb hK hP 3 2 rfl rfl (by unfold vp_in; decide) dX7_innerLine_17 ?_
    refine lv_topi (fun x_6179 ex_6179 => ?_)
    have hG := hG.trans (lt_eq ex_6179)
    have cx_6179 : (fM_fresh 1).toInt = x_6179.toInt := congrArg Int32.toInt (show fM_fresh 1 = x_6179 from ex_6179.symm)
    refine lv_istore_n (lv' := [(2, .int x_6179), (0, .ref oM), (1, .int p0)]) hx hb dX7_innerLine_18 rfl hl (by decide) rfl (fun ls hl => ?_)
    refine lv_iconst (v := 0) hx hb dX7_innerLine_19 (by decide) ?_
    refine lv_istore_n (lv' := [(3, .int 0), (2, .int x_6179), (0, .ref oM), (1, .int p0)]) hx hb dX7_innerLine_20 rfl hl (by decide) rfl (fun ls hl => ?_)
    refine lv_iconst (v := 1) hx hb dX7_innerLine_21 (by decide) ?_
    refine lv_istore (lv' := [(4, .int 1), (3, .int 0), (2, .int x_6179), (0, .ref oM), (1, .int p0)]) hx hb dX7_innerLine_22 hl (by decide) rfl (fun ls hl => ?_)
    have hl := lv_sub hl (l' := [(4, .int 1), (3, .int 0), (2, .int x_6179), (0, .ref oM), (1, .int p0)]) [0, 1, 2, 3, 4] rfl
    have key_n_6193 : ∀ (n_6193 : Nat) (z_6180 : Int32) (z_6181 : Int32) (z_6182 : Int32) (z_6183 : Int32) (z_6184 : Int32) (z_6185 : Int32) (z_6186 : Int32) (z_6187 : Int32) (z_6188 : Int32) (z_6189 : Int32) (f_6190 : Nat → Int32) (f_6191 : Nat → Int32) (f_6192 : Nat → Int32) (H : Heap) (locs : List Loc) (ls : Array Slot), (0 ≤ z_6183.toInt ∧ z_6183.toInt ≤ 900) → (0 ≤ z_6186.toInt ∧ z_6186.toInt ≤ 900) → (0 ≤ z_6189.toInt ∧ z_6189.toInt ≤ 1) → (0 ≤ z_6180.toInt ∧ z_6180.toInt ≤ 4) → (0 ≤ z_6181.toInt ∧ z_6181.toInt ≤ 1) → (POk f_6191 f_6192) → (InOk f_6191 f_6192 (f_6191 1).toNatClampNeg z_6180.toNatClampNeg p0.toInt) → ((f_6191 1).toInt = (fM_fresh 1).toInt ∧ (f_6191 7).toInt = (fM_fresh 7).toInt ∧ (f_6191 8).toInt = (fM_fresh 8).toInt) → (ImpP (z_6181.toInt ≤ 0) (1 ≤ z_6180.toInt)) → (ImpP (z_6184.toInt = 2) (z_6186.toInt ≤ 8)) → (iM_end.toInt ≤ z_6183.toInt) → (ImpP (z_6189.toInt ≤ 0 ∧ z_6184.toInt = 59 ) (iM_end.toInt + 1 ≤ z_6183.toInt)) → (4 - z_6180.toInt).toNat < n_6193 → (PX7_innerLine fM_tape iM_size iM_at iM_end iM_token iM_whole iM_nameSize iM_fault iM_place fM_letters iM_failed fM_fresh fM_read fM_fresher iM_fresherSize p0 = HX7_innerLine_0 fM_tape iM_size p0 x_6176 f_6178 x_6179 n_6193 z_6180 z_6181 z_6182 z_6183 z_6184 z_6185 z_6186 z_6187 z_6188 z_6189 f_6190 f_6191 f_6192) → va_P (dC, dI) vwCl [(oc7 oM iM_thrown rM_tape iM_taped iM_size z_6182 z_6183 z_6184 z_6185 z_6186 z_6187 z_6188 iM_trouble rM_letters z_6189 iM_hasCourt rM_r rM_fresh rM_told rM_read rM_st rM_undone rM_kept iM_undos iM_images rM_fresher x_6176 iM_scale iM_night rM_heardRow rM_cutRow iM_breaths iM_cutMany iM_allBreaths rM_trial rM_words iM_fewestBreaths iM_orderMany iM_orderSum iM_leastOrder rM_often iM_setMany iM_someOf iM_allOf iM_allWeight iM_enoughWeight iM_worthSum iM_firstRest iM_leastDrawn), (arI rM_tape kM_tape 900 fM_tape), (arI rM_letters kM_letters 8 f_6190), (arI rM_fresh kM_fresh 287 f_6191), (arI rM_read kM_read 90 f_6192), (arI rM_fresher kM_fresher 8 f_6178)] H → va_D A [(oc7 oM iM_thrown rM_tape iM_taped iM_size z_6182 z_6183 z_6184 z_6185 z_6186 z_6187 z_6188 iM_trouble rM_letters z_6189 iM_hasCourt rM_r rM_fresh rM_told rM_read rM_st rM_undone rM_kept iM_undos iM_images rM_fresher x_6176 iM_scale iM_night rM_heardRow rM_cutRow iM_breaths iM_cutMany iM_allBreaths rM_trial rM_words iM_fewestBreaths iM_orderMany iM_orderSum iM_leastOrder rM_often iM_setMany iM_someOf iM_allOf iM_allWeight iM_enoughWeight iM_worthSum iM_firstRest iM_leastDrawn), (arI rM_tape kM_tape 900 fM_tape), (arI rM_letters kM_letters 8 f_6190), (arI rM_fresh kM_fresh 287 f_6191), (arI rM_read kM_read 90 f_6192), (arI rM_fresher kM_fresher 8 f_6178)] → va_S A s.heap H locs → lv_has ls 7 [(4, .int z_6181), (3, .int z_6180), (2, .int x_6179), (0, .ref oM), (1, .int p0)] → W p l e (headSpec (Cond.code yX7_innerLine cX7_innerLine 7 none :: wG) ({ frames := 7, cells := 0, slots := 0, locals := 175 })).room s m ([.ref oM, .int p0] : List Value).toArray below meth c H locs 0 0 (MQ below (va_Qv (fun (_ : Nat) => True) (fun (_ : Nat) (t : State) => ∃ (niM_at : Int32) (niM_end : Int32) (niM_token : Int32) (niM_whole : Int32) (niM_nameSize : Int32) (niM_fault : Int32) (niM_place : Int32) (niM_failed : Int32) (niM_fresherSize : Int32) (nfM_letters : Nat → Int32) (nfM_fresh : Nat → Int32) (nfM_read : Nat → Int32) (nfM_fresher : Nat → Int32), (0 ≤ niM_end.toInt ∧ niM_end.toInt ≤ 900) ∧ (0 ≤ niM_nameSize.toInt ∧ niM_nameSize.toInt ≤ 900) ∧ (0 ≤ niM_failed.toInt ∧ niM_failed.toInt ≤ 1) ∧ (iM_end.toInt ≤ niM_end.toInt) ∧ (ImpP (niM_token.toInt = 2) (niM_nameSize.toInt ≤ 8)) ∧ (iM_failed.toInt ≤ niM_failed.toInt) ∧ (ImpP (niM_failed.toInt ≤ 0 ∧ niM_token.toInt = 59 ) (iM_end.toInt + 1 ≤ niM_end.toInt)) ∧ (POk nfM_fresh nfM_read) ∧ (PX7_innerLine fM_tape iM_size iM_at iM_end iM_token iM_whole iM_nameSize iM_fault iM_place fM_letters iM_failed fM_fresh fM_read fM_fresher iM_fresherSize p0 = (niM_at, niM_end, niM_token, niM_whole, niM_nameSize, niM_fault, niM_place, niM_failed, niM_fresherSize, nfM_letters, nfM_fresh, nfM_read, nfM_fresher)) ∧ Bw dC dI A [(oc7 oM iM_thrown rM_tape iM_taped iM_size niM_at niM_end niM_token niM_whole niM_nameSize niM_fault niM_place iM_trouble rM_letters niM_failed iM_hasCourt rM_r rM_fresh rM_told rM_read rM_st rM_undone rM_kept iM_undos iM_images rM_fresher niM_fresherSize iM_scale iM_night rM_heardRow rM_cutRow iM_breaths iM_cutMany iM_allBreaths rM_trial rM_words iM_fewestBreaths iM_orderMany iM_orderSum iM_leastOrder rM_often iM_setMany iM_someOf iM_allOf iM_allWeight iM_enoughWeight iM_worthSum iM_firstRest iM_leastDrawn), (arI rM_tape kM_tape 900 fM_tape), (arI rM_letters kM_letters 8 nfM_letters), (arI rM_fresh kM_fresh 287 nfM_fresh), (arI rM_read kM_read 90 nfM_read), (arI rM_fresher kM_fresher 8 nfM_fresher)] [(kM_tape, .int), (kM_letters, .int), (kM_fresh, .int), (kM_read, .int), (kM_fresher, .int)] t) A) ([.ref oM, .int p0] : List Value).toArray s 0 0 A) (F0 m 24 ls []) := by
      intro n_6193
      induction n_6193 with
      | zero => intro z_6180 z_6181 z_6182 z_6183 z_6184 z_6185 z_6186 z_6187 z_6188 z_6189 f_6190 f_6191 f_6192 H locs ls b_z_6183 b_z_6186 b_z_6189 hi0_n_6193 hi1_n_6193 hi2_n_6193 hi3_n_6193 hi4_n_6193 hi5_n_6193 hi6_n_6193 hi7_n_6193 hi8_n_6193 hm; exact absurd hm (by omega)
      | succ n_6193 ih_n_6193 =>
        intro z_6180 z_6181 z_6182 z_6183 z_6184 z_6185 z_6186 z_6187 z_6188 z_6189 f_6190 f_6191 f_6192 H locs ls b_z_6183 b_z_6186 b_z_6189 hi0_n_6193 hi1_n_6193 hi2_n_6193 hi3_n_6193 hi4_n_6193 hi5_n_6193 hi6_n_6193 hi7_n_6193 hi8_n_6193 hm hG hP hD hS hl
        have hG := hG.trans (HX7_innerLine_0_eq _ _ _ _ _ _ _ _ _ _ _ _ _ _ _ _ _ _ _ _)
        have pl_f_6191 := hi2_n_6193.lins
        refine lv_iload hx hb dX7_innerLine_24 (lv_at hl 0 rfl) ?_
        refine lv_if_eq (tgt := 198) hx hb dX7_innerLine_26 (by decide) (fun c_6194 => ?_) (fun c_6194 => ?_)
        · skip
          have hG := hG.trans (if_pos c_6194)
          have gc_6194 := ti_eq c_6194 rfl kc_0
          have h_6195 := hi5_n_6193 (by omega)
          clear hi5_n_6193
          refine lv_aload_n hx hb dX7_innerLine_198 rfl (lv_at hl 3 rfl) ?_
          refine va_get (D := (dC, dI)) (ci := 7) (v := .int z_6189) (C := RX7) (T := TX7) (N := 48) hx hb hts inX7 hown hK hP 0 rfl rfl 13 (by decide) (hts _ wd_380) (fun _ h9 => h9) rfl dX7_innerLine_199 ?_
          refine lv_if_eq (tgt := 206) hx hb dX7_innerLine_202 (by decide) (fun c_6196 => ?_) (fun c_6196 => ?_)
          · skip
            have hG := hG.trans (if_pos c_6196)
            have gc_6196 := ti_eq c_6196 rfl kc_0
            refine lv_aload_n hx hb dX7_innerLine_206 rfl (lv_at hl 3 rfl) ?_
            refine va_get (D := (dC, dI)) (ci := 7) (v := .ref rM_fresh) (C := RX7) (T := TX7) (N := 48) hx hb hts inX7 hown hK hP 0 rfl rfl 16 (by decide) (hts _ wd_156) (fun _ h9 => h9) rfl dX7_innerLine_207 ?_
            refine lv_bipush (v := 27) hx hb dX7_innerLine_210 (by decide) ?_
            refine lv_iload_n hx hb dX7_innerLine_212 rfl (lv_at hl 2 rfl) ?_
            refine lv_iadd hx hb dX7_innerLine_213 ?_
            refine lv_topi (fun x_6197 ex_6197 => ?_)
            have hG := hG.trans (lt_eq ex_6197)
            have vx_6197 : x_6197.toInt = x_6179.toInt + 27 := by have q := ti_add ex_6197 kc_27 rfl (by omega) (by omega); omega
            refine lv_iload_n hx hb dX7_innerLine_214 rfl (lv_at hl 1 rfl) ?_
            refine va_iast hx hb hK hP hD hS 3 2 rfl rfl (ti_in vx_6197 (by omega) (by omega)) dX7_innerLine_215 (fun H locs hP hD hS => ?_)
            obtain ⟨f_6198, ef_6198⟩ : ∃ g : Nat → Int32, g = upd f_6191 x_6197.toNatClampNeg z_6180 := ⟨_, rfl⟩
            rw [← ef_6198] at hP hD
            have hG := hG.trans (lt_eq ef_6198)
            obtain ⟨hP, hD⟩ := wl2 (ws' := [(oc7 oM iM_thrown rM_tape iM_taped iM_size z_6182 z_6183 z_6184 z_6185 z_6186 z_6187 z_6188 iM_trouble rM_letters z_6189 iM_hasCourt rM_r rM_fresh rM_told rM_read rM_st rM_undone rM_kept iM_undos iM_images rM_fresher x_6176 iM_scale iM_night rM_heardRow rM_cutRow iM_breaths iM_cutMany iM_allBreaths rM_trial rM_words iM_fewestBreaths iM_orderMany iM_orderSum iM_leastOrder rM_often iM_setMany iM_someOf iM_allOf iM_allWeight iM_enoughWeight iM_worthSum iM_firstRest iM_leastDrawn), (arI rM_tape kM_tape 900 fM_tape), (arI rM_letters kM_letters 8 f_6190), (arI rM_fresh kM_fresh 287 f_6198), (arI rM_read kM_read 90 f_6192), (arI rM_fresher kM_fresher 8 f_6178)]) hP hD rfl
            have o1_f_6198 : (f_6198 1).toInt = (f_6191 1).toInt := put_at ef_6198 (by have q9 := ti_cl (x := x_6197) vx_6197 (by omega); omega)
            have o7_f_6198 : (f_6198 7).toInt = (f_6191 7).toInt := put_at ef_6198 (by have q9 := ti_cl (x := x_6197) vx_6197 (by omega); omega)
            have o8_f_6198 : (f_6198 8).toInt = (f_6191 8).toInt := put_at ef_6198 (by have q9 := ti_cl (x := x_6197) vx_6197 (by omega); omega)
            refine lv_aload_n hx hb dX7_innerLine_216 rfl (lv_at hl 3 rfl) ?_
            refine lv_iload_n hx hb dX7_innerLine_217 rfl (lv_at hl 4 rfl) ?_
            have hFc := va_free (wc := [(oc7 oM iM_thrown rM_tape iM_taped iM_size z_6182 z_6183 z_6184 z_6185 z_6186 z_6187 z_6188 iM_trouble rM_letters z_6189 iM_hasCourt rM_r rM_fresh rM_told rM_read rM_st rM_undone rM_kept iM_undos iM_images rM_fresher x_6176 iM_scale iM_night rM_heardRow rM_cutRow iM_breaths iM_cutMany iM_allBreaths rM_trial rM_words iM_fewestBreaths iM_orderMany iM_orderSum iM_leastOrder rM_often iM_setMany iM_someOf iM_allOf iM_allWeight iM_enoughWeight iM_worthSum iM_firstRest iM_leastDrawn), (arI rM_fresh kM_fresh 287 f_6198), (arI rM_fresher kM_fresher 8 f_6178)]) hD hS hA [0, 3, 5] rfl
            refine va_callv (va_runV (As := [.int p0]) (rest := []) ⟨hx, hb, hml, hown, hts⟩ (tX7_lay l dC dI _ oM iM_thrown rM_tape iM_taped iM_size z_6182 z_6183 z_6184 z_6185 z_6186 z_6187 z_6188 iM_trouble rM_letters z_6189 iM_hasCourt rM_r rM_fresh f_6198 kM_fresh rM_told rM_read rM_st rM_undone rM_kept iM_undos iM_images rM_fresher f_6178 kM_fresher x_6176 iM_scale iM_night rM_heardRow rM_cutRow iM_breaths iM_cutMany iM_allBreaths rM_trial rM_words iM_fewestBreaths iM_orderMany iM_orderSum iM_leastOrder rM_often iM_setMany iM_someOf iM_allOf iM_allWeight iM_enoughWeight iM_worthSum iM_firstRest iM_leastDrawn p0 (by first | omega | decide) (by first | omega | decide) (by first | exact b_z_6183 | omega | decide) (by first | exact b_z_6186 | omega | decide) (by first | exact b_z_6189 | omega | decide) (by first | omega | decide) (by first | omega | decide) (by first | omega | decide) (by first | omega | decide) (by first | omega | decide) (by first | omega | decide) (by first | assumption | exact (fun h9 => by have q0 := kc_0; have q1 := kc_1; omega)) (by first | omega | decide | assumption | (have q0 := kc_0; have q1 := kc_1; omega) | (intro h; exact absurd h (by decide))) (by first | omega | decide | assumption | (have q0 := kc_0; have q1 := kc_1; omega) | (intro h; exact absurd h (by decide)))) (cwV 1 hts (wd_V wd_478 wd_479 wd_480 wd_5 (wd_c wd_481)) rfl rfl rfl (by decide +kernel) ⟨Nat.le_of_ble_eq_true rfl, Nat.le_of_ble_eq_true rfl⟩) ⟨Pw.fb, va_recv hK hP (ci := 7) (q0 := 0) rfl rfl, fun U hU hW => Pw.to (hP.sub [0, 3, 5] rfl) (hD.sub [0, 3, 5] (by decide) rfl) (hK.sub [2, 4] rfl) hE hS hFc hU hW⟩ rfl rfl hl.1 rfl (lv_room (Nat.le_of_ble_eq_true rfl)) dX7_innerLine_218 ⟨Nat.le_of_ble_eq_true rfl, Nat.le_of_ble_eq_true rfl⟩) hS (fun q _ h => hFc q h) hFc (fun u t H locs ht hvm hw hB hz1 hk1 hS => ?_)
            obtain ⟨f_6199, e_f_6199_0, e_f_6199_1, hB⟩ := hB
            obtain ⟨hP, hD, hK⟩ := Bw.go (ws' := [(arI rM_tape kM_tape 900 fM_tape), (arI rM_letters kM_letters 8 f_6190), (arI rM_read kM_read 90 f_6192), (oc7 oM iM_thrown rM_tape iM_taped iM_size z_6182 z_6183 z_6184 z_6185 z_6186 z_6187 z_6188 iM_trouble rM_letters z_6189 iM_hasCourt rM_r rM_fresh rM_told rM_read rM_st rM_undone rM_kept iM_undos iM_images rM_fresher x_6176 iM_scale iM_night rM_heardRow rM_cutRow iM_breaths iM_cutMany iM_allBreaths rM_trial rM_words iM_fewestBreaths iM_orderMany iM_orderSum iM_leastOrder rM_often iM_setMany iM_someOf iM_allOf iM_allWeight iM_enoughWeight iM_worthSum iM_firstRest iM_leastDrawn), (arI rM_fresh kM_fresh 287 f_6199), (arI rM_fresher kM_fresher 8 f_6178)]) (tys' := [(kM_tape, .int), (kM_letters, .int), (kM_read, .int), (kM_fresh, .int), (kM_fresher, .int)]) hB rfl ht hvm hP hD hK [0, 3, 5] [1, 2, 4] rfl (by decide) (by decide) [0, 1, 3] hk1 hFc rfl rfl rfl
            clear hz1 hk1 hvm ht hB
            have o2_f_6199 : (f_6199 2).toInt = (f_6198 2).toInt := by rw [(e_f_6199_0).2.2.1 2 (by decide) (by decide) (by have q1 := ti_cl (x := f_6198 1) rfl (by omega); omega)]
            have o7_f_6199 : (f_6199 7).toInt = (f_6198 7).toInt := by rw [(e_f_6199_0).2.2.1 7 (by decide) (by decide) (by have q1 := ti_cl (x := f_6198 1) rfl (by omega); omega)]
            have o8_f_6199 : (f_6199 8).toInt = (f_6198 8).toInt := by rw [(e_f_6199_0).2.2.1 8 (by decide) (by decide) (by have q1 := ti_cl (x := f_6198 1) rfl (by omega); omega)]
            have hG := hG.trans (lt_eq e_f_6199_1.symm)
            refine lv_aload_n hx hb dX7_innerLine_221 rfl (lv_at hl 3 rfl) ?_
            refine va_get (D := (dC, dI)) (ci := 7) (v := .ref rM_fresh) (C := RX7) (T := TX7) (N := 48) hx hb hts inX7 hown hK hP 3 rfl rfl 16 (by decide) (hts _ wd_156) (fun _ h9 => h9) rfl dX7_innerLine_222 ?_
            refine lv_bipush (v := 7) hx hb dX7_innerLine_225 (by decide) ?_
            refine lv_dup2_11 hx hb dX7_innerLine_227 rfl rfl ?_
            refine va_iald hx hb hK hP 4 3 rfl rfl (by unfold vp_in; decide) dX7_innerLine_228 ?_
            refine lv_topi (fun x_6200 ex_6200 => ?_)
            have hG := hG.trans (lt_eq ex_6200)
            have cx_6200 : (f_6199 7).toInt = x_6200.toInt := congrArg Int32.toInt (show f_6199 7 = x_6200 from ex_6200.symm)
            refine lv_iconst (v := 1) hx hb dX7_innerLine_229 (by decide) ?_
            refine lv_iadd hx hb dX7_innerLine_230 ?_
            refine lv_topi (fun x_6201 ex_6201 => ?_)
            have hG := hG.trans (lt_eq ex_6201)
            have vx_6201 : x_6201.toInt = x_6200.toInt + 1 := by have q := ti_add ex_6201 rfl kc_1 (by omega) (by omega); omega
            refine va_iast hx hb hK hP hD hS 4 3 rfl rfl (by unfold vp_in; decide) dX7_innerLine_231 (fun H locs hP hD hS => ?_)
            obtain ⟨f_6202, ef_6202⟩ : ∃ g : Nat → Int32, g = upd f_6199 (7 : Int32).toNatClampNeg x_6201 := ⟨_, rfl⟩
            rw [← ef_6202] at hP hD
            have hG := hG.trans (lt_eq ef_6202)
            obtain ⟨hP, hD⟩ := wl2 (ws' := [(arI rM_tape kM_tape 900 fM_tape), (arI rM_letters kM_letters 8 f_6190), (arI rM_read kM_read 90 f_6192), (oc7 oM iM_thrown rM_tape iM_taped iM_size z_6182 z_6183 z_6184 z_6185 z_6186 z_6187 z_6188 iM_trouble rM_letters z_6189 iM_hasCourt rM_r rM_fresh rM_told rM_read rM_st rM_undone rM_kept iM_undos iM_images rM_fresher x_6176 iM_scale iM_night rM_heardRow rM_cutRow iM_breaths iM_cutMany iM_allBreaths rM_trial rM_words iM_fewestBreaths iM_orderMany iM_orderSum iM_leastOrder rM_often iM_setMany iM_someOf iM_allOf iM_allWeight iM_enoughWeight iM_worthSum iM_firstRest iM_leastDrawn), (arI rM_fresh kM_fresh 287 f_6202), (arI rM_fresher kM_fresher 8 f_6178)]) hP hD rfl
            have o8_f_6202 : (f_6202 8).toInt = (f_6199 8).toInt := put_at ef_6202 (by decide)
            refine lv_aload_n hx hb dX7_innerLine_232 rfl (lv_at hl 3 rfl) ?_
            refine va_get (D := (dC, dI)) (ci := 7) (v := .ref rM_fresh) (C := RX7) (T := TX7) (N := 48) hx hb hts inX7 hown hK hP 3 rfl rfl 16 (by decide) (hts _ wd_156) (fun _ h9 => h9) rfl dX7_innerLine_233 ?_
            refine lv_bipush (v := 8) hx hb dX7_innerLine_236 (by decide) ?_
            refine lv_dup2_11 hx hb dX7_innerLine_238 rfl rfl ?_
            refine va_iald hx hb hK hP 4 3 rfl rfl (by unfold vp_in; decide) dX7_innerLine_239 ?_
            refine lv_topi (fun x_6203 ex_6203 => ?_)
            have hG := hG.trans (lt_eq ex_6203)
            have cx_6203 : (f_6202 8).toInt = x_6203.toInt := congrArg Int32.toInt (show f_6202 8 = x_6203 from ex_6203.symm)
            refine lv_iload_n hx hb dX7_innerLine_240 rfl (lv_at hl 4 rfl) ?_
            refine lv_iconst (v := 3) hx hb dX7_innerLine_241 (by decide) ?_
            refine lv_icmp_ne (tgt := 249) hx hb dX7_innerLine_242 (by decide) (fun c_6204 => ?_) (fun c_6204 => ?_)
            · skip
              have hG := hG.trans (if_neg c_6204)
              have gc_6204 := ti_ne c_6204 rfl kc_3
              replace gc_6204 : p0.toInt + (-2) ≤ 0 := by omega
              clear hic
              refine lv_iconst (v := 0) hx hb dX7_innerLine_249 (by decide) ?_
              refine lv_iadd hx hb dX7_innerLine_250 ?_
              refine lv_topi (fun x_6205 ex_6205 => ?_)
              have hG := hG.trans (lt_eq ex_6205)
              have vx_6205 : x_6205.toInt = x_6203.toInt := by have q := ti_add ex_6205 rfl kc_0 (by omega) (by omega); omega
              refine va_iast hx hb hK hP hD hS 4 3 rfl rfl (by unfold vp_in; decide) dX7_innerLine_251 (fun H locs hP hD hS => ?_)
              obtain ⟨f_6206, ef_6206⟩ : ∃ g : Nat → Int32, g = upd f_6202 (8 : Int32).toNatClampNeg x_6205 := ⟨_, rfl⟩
              rw [← ef_6206] at hP hD
              have hG := hG.trans (lt_eq ef_6206)
              obtain ⟨hP, hD⟩ := wl2 (ws' := [(arI rM_tape kM_tape 900 fM_tape), (arI rM_letters kM_letters 8 f_6190), (arI rM_read kM_read 90 f_6192), (oc7 oM iM_thrown rM_tape iM_taped iM_size z_6182 z_6183 z_6184 z_6185 z_6186 z_6187 z_6188 iM_trouble rM_letters z_6189 iM_hasCourt rM_r rM_fresh rM_told rM_read rM_st rM_undone rM_kept iM_undos iM_images rM_fresher x_6176 iM_scale iM_night rM_heardRow rM_cutRow iM_breaths iM_cutMany iM_allBreaths rM_trial rM_words iM_fewestBreaths iM_orderMany iM_orderSum iM_leastOrder rM_often iM_setMany iM_someOf iM_allOf iM_allWeight iM_enoughWeight iM_worthSum iM_firstRest iM_leastDrawn), (arI rM_fresh kM_fresh 287 f_6206), (arI rM_fresher kM_fresher 8 f_6178)]) hP hD rfl
              have pk_f_6206 : POk f_6206 f_6192 := POk.inner (f := f_6191) (m := z_6180.toNatClampNeg) hi2_n_6193 ef_6198 (by have q9 := ti_cl (x := x_6197) vx_6197 (by omega); have q2 := ti_cl (x := f_6191 1) rfl (by omega); omega) (by have q3 := ti_cl (x := z_6180) rfl (by omega); omega) (by have q3 := ti_cl (x := z_6180) rfl (by omega); omega) (by have q3 := ti_cl (x := z_6180) rfl (by omega); omega) e_f_6199_0 (by omega) ef_6202 rfl (by have q := vx_6201; omega) ef_6206 rfl (by have q := vx_6205; have q0 := kc_0; have q1 := kc_1; first | (rw [if_pos (by omega)]; omega) | (rw [if_neg (by omega)]; omega)) (by omega) (fun h9 => by omega) hi3_n_6193
              have pl_f_6206 := pk_f_6206.lins
              exact W.vret hx hb hr (fun t ht hW => ⟨⟨0, rfl, trivial, ⟨z_6182, z_6183, z_6184, z_6185, z_6186, z_6187, z_6188, z_6189, x_6176, f_6190, f_6206, f_6192, f_6178, b_z_6183, b_z_6186, b_z_6189, (by first | assumption | (have q0 := kc_0; have q1 := kc_1; omega)), hi6_n_6193, (by first | assumption | (have q0 := kc_0; have q1 := kc_1; omega)), (fun h9 => by have q0 := kc_0; have q1 := kc_1; have q9 := hi8_n_6193 (by omega); omega), (by first | assumption | (have q0 := kc_0; have q1 := kc_1; omega)), hG, Bw.to (hP.sub [3, 0, 1, 4, 2, 5] rfl) (hD.sub [3, 0, 1, 4, 2, 5] (by decide) rfl) (hK.sub [0, 1, 3, 2, 4] rfl) ht hW⟩⟩, hS.F ht⟩) hS.2.2 dX7_innerLine_252
            · skip
              have hG := hG.trans (if_pos c_6204)
              have gc_6204 := ti_eq c_6204 rfl kc_3
              have h_6207 := hic (by omega)
              clear hic
              refine lv_iconst (v := 1) hx hb dX7_innerLine_245 (by decide) ?_
              refine lv_goto (tgt := 250) hx hb dX7_innerLine_246 (by decide) ?_
              refine lv_iadd hx hb dX7_innerLine_250 ?_
              refine lv_topi (fun x_6208 ex_6208 => ?_)
              have hG := hG.trans (lt_eq ex_6208)
              have vx_6208 : x_6208.toInt = x_6203.toInt + 1 := by have q := ti_add ex_6208 rfl kc_1 (by omega) (by omega); omega
              refine va_iast hx hb hK hP hD hS 4 3 rfl rfl (by unfold vp_in; decide) dX7_innerLine_251 (fun H locs hP hD hS => ?_)
              obtain ⟨f_6209, ef_6209⟩ : ∃ g : Nat → Int32, g = upd f_6202 (8 : Int32).toNatClampNeg x_6208 := ⟨_, rfl⟩
              rw [← ef_6209] at hP hD
              have hG := hG.trans (lt_eq ef_6209)
              obtain ⟨hP, hD⟩ := wl2 (ws' := [(arI rM_tape kM_tape 900 fM_tape), (arI rM_letters kM_letters 8 f_6190), (arI rM_read kM_read 90 f_6192), (oc7 oM iM_thrown rM_tape iM_taped iM_size z_6182 z_6183 z_6184 z_6185 z_6186 z_6187 z_6188 iM_trouble rM_letters z_6189 iM_hasCourt rM_r rM_fresh rM_told rM_read rM_st rM_undone rM_kept iM_undos iM_images rM_fresher x_6176 iM_scale iM_night rM_heardRow rM_cutRow iM_breaths iM_cutMany iM_allBreaths rM_trial rM_words iM_fewestBreaths iM_orderMany iM_orderSum iM_leastOrder rM_often iM_setMany iM_someOf iM_allOf iM_allWeight iM_enoughWeight iM_worthSum iM_firstRest iM_leastDrawn), (arI rM_fresh kM_fresh 287 f_6209), (arI rM_fresher kM_fresher 8 f_6178)]) hP hD rfl
              have pk_f_6209 : POk f_6209 f_6192 := POk.inner (f := f_6191) (m := z_6180.toNatClampNeg) hi2_n_6193 ef_6198 (by have q9 := ti_cl (x := x_6197) vx_6197 (by omega); have q2 := ti_cl (x := f_6191 1) rfl (by omega); omega) (by have q3 := ti_cl (x := z_6180) rfl (by omega); omega) (by have q3 := ti_cl (x := z_6180) rfl (by omega); omega) (by have q3 := ti_cl (x := z_6180) rfl (by omega); omega) e_f_6199_0 (by omega) ef_6202 rfl (by have q := vx_6201; omega) ef_6209 rfl (by have q := vx_6208; have q0 := kc_0; have q1 := kc_1; first | (rw [if_pos (by omega)]; omega) | (rw [if_neg (by omega)]; omega)) (by omega) (fun h9 => by omega) hi3_n_6193
              have pl_f_6209 := pk_f_6209.lins
              exact W.vret hx hb hr (fun t ht hW => ⟨⟨0, rfl, trivial, ⟨z_6182, z_6183, z_6184, z_6185, z_6186, z_6187, z_6188, z_6189, x_6176, f_6190, f_6209, f_6192, f_6178, b_z_6183, b_z_6186, b_z_6189, (by first | assumption | (have q0 := kc_0; have q1 := kc_1; omega)), hi6_n_6193, (by first | assumption | (have q0 := kc_0; have q1 := kc_1; omega)), (fun h9 => by have q0 := kc_0; have q1 := kc_1; have q9 := hi8_n_6193 (by omega); omega), (by first | assumption | (have q0 := kc_0; have q1 := kc_1; omega)), hG, Bw.to (hP.sub [3, 0, 1, 4, 2, 5] rfl) (hD.sub [3, 0, 1, 4, 2, 5] (by decide) rfl) (hK.sub [0, 1, 3, 2, 4] rfl) ht hW⟩⟩, hS.F ht⟩) hS.2.2 dX7_innerLine_252
          · skip
            have hG := hG.trans (if_neg c_6196)
            have gc_6196 := ti_ne c_6196 rfl kc_0
            replace gc_6196 : (-1) * z_6189.toInt + 1 ≤ 0 := by omega
            exact W.vret hx hb hr (fun t ht hW => ⟨⟨0, rfl, trivial, ⟨z_6182, z_6183, z_6184, z_6185, z_6186, z_6187, z_6188, z_6189, x_6176, f_6190, f_6191, f_6192, f_6178, b_z_6183, b_z_6186, b_z_6189, (by first | assumption | (have q0 := kc_0; have q1 := kc_1; omega)), hi6_n_6193, (by first | assumption | (have q0 := kc_0; have q1 := kc_1; omega)), (fun h9 => by have q0 := kc_0; have q1 := kc_1; omega), (by first | assumption | (have q0 := kc_0; have q1 := kc_1; omega)), hG, Bw.to (hP.sub [0, 1, 2, 3, 4, 5] rfl) (hD.sub [0, 1, 2, 3, 4, 5] (by decide) rfl) (hK.sub [0, 1, 2, 3, 4] rfl) ht hW⟩⟩, hS.F ht⟩) hS.2.2 dX7_innerLine_205
        · skip
          have hG := hG.trans (if_neg c_6194)
          have gc_6194 := ti_ne c_6194 rfl kc_0
          replace gc_6194 : (-1) * z_6181.toInt + 1 ≤ 0 := by omega
          clear hi5_n_6193
          refine lv_aload_n hx hb dX7_innerLine_29 rfl (lv_at hl 3 rfl) ?_
          refine va_get (D := (dC, dI)) (ci := 7) (v := .int z_6189) (C := RX7) (T := TX7) (N := 48) hx hb hts inX7 hown hK hP 0 rfl rfl 13 (by decide) (hts _ wd_380) (fun _ h9 => h9) rfl dX7_innerLine_30 ?_
          refine lv_if_ne (tgt := 198) hx hb dX7_innerLine_33 (by decide) (fun c_6210 => ?_) (fun c_6210 => ?_)
          · skip
            have hG := hG.trans (if_neg c_6210)
            have gc_6210 := ti_ne c_6210 rfl kc_0
            replace gc_6210 : (-1) * z_6189.toInt + 1 ≤ 0 := by omega
            refine lv_aload_n hx hb dX7_innerLine_198 rfl (lv_at hl 3 rfl) ?_
            refine va_get (D := (dC, dI)) (ci := 7) (v := .int z_6189) (C := RX7) (T := TX7) (N := 48) hx hb hts inX7 hown hK hP 0 rfl rfl 13 (by decide) (hts _ wd_380) (fun _ h9 => h9) rfl dX7_innerLine_199 ?_
            refine lv_if_eq (tgt := 206) hx hb dX7_innerLine_202 (by decide) (fun c_6211 => ?_) (fun c_6211 => ?_)
            · skip
              have hG := hG.trans (if_pos c_6211)
              have gc_6211 := ti_eq c_6211 rfl kc_0
              exfalso; clear hG; omega
            · skip
              have hG := hG.trans (if_neg c_6211)
              have gc_6211 := ti_ne c_6211 rfl kc_0
              replace gc_6211 : (-1) * z_6189.toInt + 1 ≤ 0 := by omega
              exact W.vret hx hb hr (fun t ht hW => ⟨⟨0, rfl, trivial, ⟨z_6182, z_6183, z_6184, z_6185, z_6186, z_6187, z_6188, z_6189, x_6176, f_6190, f_6191, f_6192, f_6178, b_z_6183, b_z_6186, b_z_6189, (by first | assumption | (have q0 := kc_0; have q1 := kc_1; omega)), hi6_n_6193, (by first | assumption | (have q0 := kc_0; have q1 := kc_1; omega)), (fun h9 => by have q0 := kc_0; have q1 := kc_1; omega), (by first | assumption | (have q0 := kc_0; have q1 := kc_1; omega)), hG, Bw.to (hP.sub [0, 1, 2, 3, 4, 5] rfl) (hD.sub [0, 1, 2, 3, 4, 5] (by decide) rfl) (hK.sub [0, 1, 2, 3, 4] rfl) ht hW⟩⟩, hS.F ht⟩) hS.2.2 dX7_innerLine_205
          · skip
            have hG := hG.trans (if_pos c_6210)
            have gc_6210 := ti_eq c_6210 rfl kc_0
            refine lv_aload_n hx hb dX7_innerLine_36 rfl (lv_at hl 3 rfl) ?_
            have hFc := va_free (wc := [(oc7 oM iM_thrown rM_tape iM_taped iM_size z_6182 z_6183 z_6184 z_6185 z_6186 z_6187 z_6188 iM_trouble rM_letters z_6189 iM_hasCourt rM_r rM_fresh rM_told rM_read rM_st rM_undone rM_kept iM_undos iM_images rM_fresher x_6176 iM_scale iM_night rM_heardRow rM_cutRow iM_breaths iM_cutMany iM_allBreaths rM_trial rM_words iM_fewestBreaths iM_orderMany iM_orderSum iM_leastOrder rM_often iM_setMany iM_someOf iM_allOf iM_allWeight iM_enoughWeight iM_worthSum iM_firstRest iM_leastDrawn), (arI rM_letters kM_letters 8 f_6190), (arI rM_fresh kM_fresh 287 f_6191), (arI rM_read kM_read 90 f_6192)]) hD hS hA [0, 2, 3, 4] rfl
            refine va_calli (va_runV (As := []) (rest := []) ⟨hx, hb, hml, hown, hts⟩ (tX7_nodeHere l dC dI _ oM iM_thrown rM_tape iM_taped iM_size z_6182 z_6183 z_6184 z_6185 z_6186 z_6187 z_6188 iM_trouble rM_letters f_6190 kM_letters z_6189 iM_hasCourt rM_r rM_fresh f_6191 kM_fresh rM_told rM_read f_6192 kM_read rM_st rM_undone rM_kept iM_undos iM_images rM_fresher x_6176 iM_scale iM_night rM_heardRow rM_cutRow iM_breaths iM_cutMany iM_allBreaths rM_trial rM_words iM_fewestBreaths iM_orderMany iM_orderSum iM_leastOrder rM_often iM_setMany iM_someOf iM_allOf iM_allWeight iM_enoughWeight iM_worthSum iM_firstRest iM_leastDrawn (by first | omega | decide) (by first | omega | decide) (by first | exact b_z_6183 | omega | decide) (by first | exact b_z_6186 | omega | decide) (by first | exact b_z_6189 | omega | decide) (by first | omega | decide) (by first | omega | decide) (by first | omega | decide) (by first | omega | decide) (by first | omega | decide) (by first | omega | decide) (by first | assumption | exact (fun h9 => by have q0 := kc_0; have q1 := kc_1; omega)) (by assumption)) (cwV 0 hts (wd_V wd_486 wd_487 wd_488 wd_5 (wd_c wd_489)) rfl rfl rfl (by decide +kernel) ⟨Nat.le_of_ble_eq_true rfl, Nat.le_of_ble_eq_true rfl⟩) ⟨Pw.fb, va_recv hK hP (ci := 7) (q0 := 0) rfl rfl, fun U hU hW => Pw.to (hP.sub [0, 2, 3, 4] rfl) (hD.sub [0, 2, 3, 4] (by decide) rfl) (hK.sub [1, 2, 3] rfl) hE hS hFc hU hW⟩ rfl rfl hl.1 rfl (lv_room (Nat.le_of_ble_eq_true rfl)) dX7_innerLine_37 ⟨Nat.le_of_ble_eq_true rfl, Nat.le_of_ble_eq_true rfl⟩) hS (fun q _ h => hFc q h) hFc (fun r u t H locs ht hvm hw hB hz1 hk1 hS => ?_)
            have hru9 := hw.2
            have hw := hw.1
            obtain ⟨x_6212, x_6213, x_6214, b_x_6214, e_x_6212_0, e_x_6212_1, e_x_6212_2, hB⟩ := hB
            obtain ⟨hP, hD, hK⟩ := Bw.go (ws' := [(arI rM_tape kM_tape 900 fM_tape), (arI rM_fresher kM_fresher 8 f_6178), (oc7 oM iM_thrown rM_tape iM_taped iM_size z_6182 z_6183 z_6184 z_6185 z_6186 x_6212 x_6213 iM_trouble rM_letters x_6214 iM_hasCourt rM_r rM_fresh rM_told rM_read rM_st rM_undone rM_kept iM_undos iM_images rM_fresher x_6176 iM_scale iM_night rM_heardRow rM_cutRow iM_breaths iM_cutMany iM_allBreaths rM_trial rM_words iM_fewestBreaths iM_orderMany iM_orderSum iM_leastOrder rM_often iM_setMany iM_someOf iM_allOf iM_allWeight iM_enoughWeight iM_worthSum iM_firstRest iM_leastDrawn), (arI rM_letters kM_letters 8 f_6190), (arI rM_fresh kM_fresh 287 f_6191), (arI rM_read kM_read 90 f_6192)]) (tys' := [(kM_tape, .int), (kM_fresher, .int), (kM_letters, .int), (kM_fresh, .int), (kM_read, .int)]) hB rfl ht hvm hP hD hK [0, 2, 3, 4] [1, 5] rfl (by decide) (by decide) [0, 4] hk1 hFc rfl rfl rfl
            clear hz1 hk1 hvm ht hB
            rw [← hru9] at e_x_6212_2
            obtain ⟨x_6215, rfl⟩ : ∃ z, z = r := ⟨_, rfl⟩
            have hG := hG.trans (un4_eq e_x_6212_2)
            have lx_6215 := hw.2
            have ux_6215 := hw.2
            refine lv_istore (lv' := [(5, .int x_6215), (4, .int z_6181), (3, .int z_6180), (2, .int x_6179), (0, .ref oM), (1, .int p0)]) hx hb dX7_innerLine_40 hl (by decide) rfl (fun ls hl => ?_)
            refine lv_iconst (v := 0) hx hb dX7_innerLine_42 (by decide) ?_
            refine lv_istore (lv' := [(6, .int 0), (5, .int x_6215), (4, .int z_6181), (3, .int z_6180), (2, .int x_6179), (0, .ref oM), (1, .int p0)]) hx hb dX7_innerLine_43 hl (by decide) rfl (fun ls hl => ?_)
            have hl := lv_sub hl (l' := [(6, .int 0), (5, .int x_6215), (4, .int z_6181), (3, .int z_6180), (2, .int x_6179), (0, .ref oM), (1, .int p0)]) [0, 1, 2, 3, 4, 5, 6] rfl
            have key_n_6220 : ∀ (n_6220 : Nat) (z_6216 : Int32) (z_6217 : Int32) (z_6218 : Int32) (z_6219 : Int32) (H : Heap) (locs : List Loc) (ls : Array Slot), (0 ≤ z_6217.toInt ∧ z_6217.toInt ≤ 1) → (0 ≤ z_6216.toInt ∧ z_6216.toInt ≤ z_6180.toInt) → (x_6214.toInt ≤ z_6217.toInt) → (NeI z_6217.toInt z_6216.toNatClampNeg f_6192 x_6179.toNatClampNeg x_6215.toInt) → (z_6180.toInt - z_6216.toInt).toNat < n_6220 → (PX7_innerLine fM_tape iM_size iM_at iM_end iM_token iM_whole iM_nameSize iM_fault iM_place fM_letters iM_failed fM_fresh fM_read fM_fresher iM_fresherSize p0 = HX7_innerLine_1 fM_tape iM_size p0 x_6176 f_6178 x_6179 z_6180 z_6182 z_6183 z_6184 z_6185 z_6186 f_6190 f_6191 f_6192 x_6215 (fun (z_6180 : Int32) (z_6181 : Int32) (z_6182 : Int32) (z_6183 : Int32) (z_6184 : Int32) (z_6185 : Int32) (z_6186 : Int32) (z_6187 : Int32) (z_6188 : Int32) (z_6189 : Int32) (f_6190 : Nat → Int32) (f_6191 : Nat → Int32) (f_6192 : Nat → Int32) => HX7_innerLine_0 fM_tape iM_size p0 x_6176 f_6178 x_6179 n_6193 z_6180 z_6181 z_6182 z_6183 z_6184 z_6185 z_6186 z_6187 z_6188 z_6189 f_6190 f_6191 f_6192) n_6220 z_6216 z_6217 z_6218 z_6219) → va_P (dC, dI) vwCl [(arI rM_tape kM_tape 900 fM_tape), (arI rM_fresher kM_fresher 8 f_6178), (oc7 oM iM_thrown rM_tape iM_taped iM_size z_6182 z_6183 z_6184 z_6185 z_6186 z_6218 z_6219 iM_trouble rM_letters z_6217 iM_hasCourt rM_r rM_fresh rM_told rM_read rM_st rM_undone rM_kept iM_undos iM_images rM_fresher x_6176 iM_scale iM_night rM_heardRow rM_cutRow iM_breaths iM_cutMany iM_allBreaths rM_trial rM_words iM_fewestBreaths iM_orderMany iM_orderSum iM_leastOrder rM_often iM_setMany iM_someOf iM_allOf iM_allWeight iM_enoughWeight iM_worthSum iM_firstRest iM_leastDrawn), (arI rM_letters kM_letters 8 f_6190), (arI rM_fresh kM_fresh 287 f_6191), (arI rM_read kM_read 90 f_6192)] H → va_D A [(arI rM_tape kM_tape 900 fM_tape), (arI rM_fresher kM_fresher 8 f_6178), (oc7 oM iM_thrown rM_tape iM_taped iM_size z_6182 z_6183 z_6184 z_6185 z_6186 z_6218 z_6219 iM_trouble rM_letters z_6217 iM_hasCourt rM_r rM_fresh rM_told rM_read rM_st rM_undone rM_kept iM_undos iM_images rM_fresher x_6176 iM_scale iM_night rM_heardRow rM_cutRow iM_breaths iM_cutMany iM_allBreaths rM_trial rM_words iM_fewestBreaths iM_orderMany iM_orderSum iM_leastOrder rM_often iM_setMany iM_someOf iM_allOf iM_allWeight iM_enoughWeight iM_worthSum iM_firstRest iM_leastDrawn), (arI rM_letters kM_letters 8 f_6190), (arI rM_fresh kM_fresh 287 f_6191), (arI rM_read kM_read 90 f_6192)] → va_S A s.heap H locs → lv_has ls 7 [(6, .int z_6216), (5, .int x_6215), (4, .int z_6181), (3, .int z_6180), (2, .int x_6179), (0, .ref oM), (1, .int p0)] → W p l e (headSpec (Cond.code yX7_innerLine cX7_innerLine 7 none :: wG) ({ frames := 7, cells := 0, slots := 0, locals := 175 })).room s m ([.ref oM, .int p0] : List Value).toArray below meth c H locs 0 0 (MQ below (va_Qv (fun (_ : Nat) => True) (fun (_ : Nat) (t : State) => ∃ (niM_at : Int32) (niM_end : Int32) (niM_token : Int32) (niM_whole : Int32) (niM_nameSize : Int32) (niM_fault : Int32) (niM_place : Int32) (niM_failed : Int32) (niM_fresherSize : Int32) (nfM_letters : Nat → Int32) (nfM_fresh : Nat → Int32) (nfM_read : Nat → Int32) (nfM_fresher : Nat → Int32), (0 ≤ niM_end.toInt ∧ niM_end.toInt ≤ 900) ∧ (0 ≤ niM_nameSize.toInt ∧ niM_nameSize.toInt ≤ 900) ∧ (0 ≤ niM_failed.toInt ∧ niM_failed.toInt ≤ 1) ∧ (iM_end.toInt ≤ niM_end.toInt) ∧ (ImpP (niM_token.toInt = 2) (niM_nameSize.toInt ≤ 8)) ∧ (iM_failed.toInt ≤ niM_failed.toInt) ∧ (ImpP (niM_failed.toInt ≤ 0 ∧ niM_token.toInt = 59 ) (iM_end.toInt + 1 ≤ niM_end.toInt)) ∧ (POk nfM_fresh nfM_read) ∧ (PX7_innerLine fM_tape iM_size iM_at iM_end iM_token iM_whole iM_nameSize iM_fault iM_place fM_letters iM_failed fM_fresh fM_read fM_fresher iM_fresherSize p0 = (niM_at, niM_end, niM_token, niM_whole, niM_nameSize, niM_fault, niM_place, niM_failed, niM_fresherSize, nfM_letters, nfM_fresh, nfM_read, nfM_fresher)) ∧ Bw dC dI A [(oc7 oM iM_thrown rM_tape iM_taped iM_size niM_at niM_end niM_token niM_whole niM_nameSize niM_fault niM_place iM_trouble rM_letters niM_failed iM_hasCourt rM_r rM_fresh rM_told rM_read rM_st rM_undone rM_kept iM_undos iM_images rM_fresher niM_fresherSize iM_scale iM_night rM_heardRow rM_cutRow iM_breaths iM_cutMany iM_allBreaths rM_trial rM_words iM_fewestBreaths iM_orderMany iM_orderSum iM_leastOrder rM_often iM_setMany iM_someOf iM_allOf iM_allWeight iM_enoughWeight iM_worthSum iM_firstRest iM_leastDrawn), (arI rM_tape kM_tape 900 fM_tape), (arI rM_letters kM_letters 8 nfM_letters), (arI rM_fresh kM_fresh 287 nfM_fresh), (arI rM_read kM_read 90 nfM_read), (arI rM_fresher kM_fresher 8 nfM_fresher)] [(kM_tape, .int), (kM_letters, .int), (kM_fresh, .int), (kM_read, .int), (kM_fresher, .int)] t) A) ([.ref oM, .int p0] : List Value).toArray s 0 0 A) (F0 m 45 ls []) := by
              intro n_6220
              induction n_6220 with
              | zero => intro z_6216 z_6217 z_6218 z_6219 H locs ls b_z_6217 hi0_n_6220 hi1_n_6220 hi2_n_6220 hm; exact absurd hm (by omega)
              | succ n_6220 ih_n_6220 =>
                intro z_6216 z_6217 z_6218 z_6219 H locs ls b_z_6217 hi0_n_6220 hi1_n_6220 hi2_n_6220 hm hG hP hD hS hl
                have hG := hG.trans (HX7_innerLine_1_eq _ _ _ _ _ _ _ _ _ _ _ _ _ _ _ _ _ _ _ _ _ _)
                refine lv_iload hx hb dX7_innerLine_45 (lv_at hl 0 rfl) ?_
                refine lv_iload_n hx hb dX7_innerLine_47 rfl (lv_at hl 3 rfl) ?_
                refine lv_icmp_ge (tgt := 89) hx hb dX7_innerLine_48 (by decide) (fun c_6221 => ?_) (fun c_6221 => ?_)
                · skip
                  have hG := hG.trans (if_pos c_6221)
                  have gc_6221 := ti_le c_6221 rfl rfl
                  refine lv_aload_n hx hb dX7_innerLine_89 rfl (lv_at hl 5 rfl) ?_
                  refine va_get (D := (dC, dI)) (ci := 7) (v := .int z_6217) (C := RX7) (T := TX7) (N := 48) hx hb hts inX7 hown hK hP 2 rfl rfl 13 (by decide) (hts _ wd_380) (fun _ h9 => h9) rfl dX7_innerLine_90 ?_
                  refine lv_if_ne (tgt := 110) hx hb dX7_innerLine_93 (by decide) (fun c_6222 => ?_) (fun c_6222 => ?_)
                  · skip
                    have hG := hG.trans (if_neg c_6222)
                    have gc_6222 := ti_ne c_6222 rfl kc_0
                    replace gc_6222 : (-1) * z_6217.toInt + 1 ≤ 0 := by omega
                    refine lv_aload_n hx hb dX7_innerLine_110 rfl (lv_at hl 5 rfl) ?_
                    have hFc := va_free (wc := [(oc7 oM iM_thrown rM_tape iM_taped iM_size z_6182 z_6183 z_6184 z_6185 z_6186 z_6218 z_6219 iM_trouble rM_letters z_6217 iM_hasCourt rM_r rM_fresh rM_told rM_read rM_st rM_undone rM_kept iM_undos iM_images rM_fresher x_6176 iM_scale iM_night rM_heardRow rM_cutRow iM_breaths iM_cutMany iM_allBreaths rM_trial rM_words iM_fewestBreaths iM_orderMany iM_orderSum iM_leastOrder rM_often iM_setMany iM_someOf iM_allOf iM_allWeight iM_enoughWeight iM_worthSum iM_firstRest iM_leastDrawn), (arI rM_tape kM_tape 900 fM_tape), (arI rM_letters kM_letters 8 f_6190)]) hD hS hA [2, 0, 3] rfl
                    refine va_callv (va_runV (As := []) (rest := []) ⟨hx, hb, hml, hown, hts⟩ (tX7_pass l dC dI _ oM iM_thrown rM_tape fM_tape kM_tape iM_taped iM_size z_6182 z_6183 z_6184 z_6185 z_6186 z_6218 z_6219 iM_trouble rM_letters f_6190 kM_letters z_6217 iM_hasCourt rM_r rM_fresh rM_told rM_read rM_st rM_undone rM_kept iM_undos iM_images rM_fresher x_6176 iM_scale iM_night rM_heardRow rM_cutRow iM_breaths iM_cutMany iM_allBreaths rM_trial rM_words iM_fewestBreaths iM_orderMany iM_orderSum iM_leastOrder rM_often iM_setMany iM_someOf iM_allOf iM_allWeight iM_enoughWeight iM_worthSum iM_firstRest iM_leastDrawn (by first | omega | decide) (by first | omega | decide) (by first | exact b_z_6183 | omega | decide) (by first | exact b_z_6186 | omega | decide) (by first | exact b_z_6217 | omega | decide) (by first | omega | decide) (by first | omega | decide) (by first | omega | decide) (by first | omega | decide) (by first | omega | decide) (by first | omega | decide) (by first | assumption | exact (fun h9 => by have q0 := kc_0; have q1 := kc_1; omega))) (cwV 0 hts (wd_V wd_454 wd_455 wd_456 wd_5 (wd_c wd_457)) rfl rfl rfl (by decide +kernel) ⟨Nat.le_of_ble_eq_true rfl, Nat.le_of_ble_eq_true rfl⟩) ⟨Pw.fb, va_recv hK hP (ci := 7) (q0 := 2) rfl rfl, fun U hU hW => Pw.to (hP.sub [2, 0, 3] rfl) (hD.sub [2, 0, 3] (by decide) rfl) (hK.sub [0, 2] rfl) hE hS hFc hU hW⟩ rfl rfl hl.1 rfl (lv_room (Nat.le_of_ble_eq_true rfl)) dX7_innerLine_111 ⟨Nat.le_of_ble_eq_true rfl, Nat.le_of_ble_eq_true rfl⟩) hS (fun q _ h => hFc q h) hFc (fun u t H locs ht hvm hw hB hz1 hk1 hS => ?_)
                    obtain ⟨x_6223, x_6224, x_6225, x_6226, x_6227, f_6228, b_x_6224, b_x_6227, e_x_6223_0, e_x_6223_1, e_x_6223_2, e_x_6223_3, hB⟩ := hB
                    obtain ⟨hP, hD, hK⟩ := Bw.go (ws' := [(arI rM_fresher kM_fresher 8 f_6178), (arI rM_fresh kM_fresh 287 f_6191), (arI rM_read kM_read 90 f_6192), (oc7 oM iM_thrown rM_tape iM_taped iM_size x_6223 x_6224 x_6225 x_6226 x_6227 z_6218 z_6219 iM_trouble rM_letters z_6217 iM_hasCourt rM_r rM_fresh rM_told rM_read rM_st rM_undone rM_kept iM_undos iM_images rM_fresher x_6176 iM_scale iM_night rM_heardRow rM_cutRow iM_breaths iM_cutMany iM_allBreaths rM_trial rM_words iM_fewestBreaths iM_orderMany iM_orderSum iM_leastOrder rM_often iM_setMany iM_someOf iM_allOf iM_allWeight iM_enoughWeight iM_worthSum iM_firstRest iM_leastDrawn), (arI rM_tape kM_tape 900 fM_tape), (arI rM_letters kM_letters 8 f_6228)]) (tys' := [(kM_fresher, .int), (kM_fresh, .int), (kM_read, .int), (kM_tape, .int), (kM_letters, .int)]) hB rfl ht hvm hP hD hK [2, 0, 3] [1, 4, 5] rfl (by decide) (by decide) [1, 3, 4] hk1 hFc rfl rfl rfl
                    clear hz1 hk1 hvm ht hB
                    have hG := hG.trans (un6_eq e_x_6223_3)
                    clear hi6_n_6193
                    clear hi8_n_6193
                    refine lv_iload_n hx hb dX7_innerLine_114 rfl (lv_at hl 6 rfl) ?_
                    refine lv_iconst (v := 3) hx hb dX7_innerLine_115 (by decide) ?_
                    refine lv_icmp_ne (tgt := 129) hx hb dX7_innerLine_116 (by decide) (fun c_6229 => ?_) (fun c_6229 => ?_)
                    · skip
                      have hG := hG.trans (if_neg c_6229)
                      have gc_6229 := ti_ne c_6229 rfl kc_3
                      replace gc_6229 : p0.toInt + (-2) ≤ 0 := by omega
                      clear hic
                      refine lv_iconst (v := 0) hx hb dX7_innerLine_129 (by decide) ?_
                      refine lv_istore (lv' := [(6, .int 0), (5, .int x_6215), (4, .int z_6181), (3, .int z_6180), (2, .int x_6179), (0, .ref oM), (1, .int p0)]) hx hb dX7_innerLine_130 hl (by decide) rfl (fun ls hl => ?_)
                      refine lv_aload_n hx hb dX7_innerLine_132 rfl (lv_at hl 5 rfl) ?_
                      refine va_get (D := (dC, dI)) (ci := 7) (v := .int z_6217) (C := RX7) (T := TX7) (N := 48) hx hb hts inX7 hown hK hP 3 rfl rfl 13 (by decide) (hts _ wd_380) (fun _ h9 => h9) rfl dX7_innerLine_133 ?_
                      refine lv_if_eq (tgt := 140) hx hb dX7_innerLine_136 (by decide) (fun c_6230 => ?_) (fun c_6230 => ?_)
                      · skip
                        have hG := hG.trans (if_pos c_6230)
                        have gc_6230 := ti_eq c_6230 rfl kc_0
                        exfalso; clear hG; omega
                      · skip
                        have hG := hG.trans (if_neg c_6230)
                        have gc_6230 := ti_ne c_6230 rfl kc_0
                        replace gc_6230 : (-1) * z_6217.toInt + 1 ≤ 0 := by omega
                        exact W.vret hx hb hr (fun t ht hW => ⟨⟨0, rfl, trivial, ⟨x_6223, x_6224, x_6225, x_6226, x_6227, z_6218, z_6219, z_6217, x_6176, f_6228, f_6191, f_6192, f_6178, b_x_6224, b_x_6227, b_z_6217, (by first | assumption | (have q0 := kc_0; have q1 := kc_1; omega)), e_x_6223_1, (by first | assumption | (have q0 := kc_0; have q1 := kc_1; omega)), (fun h9 => by have q0 := kc_0; have q1 := kc_1; omega), (by first | assumption | (have q0 := kc_0; have q1 := kc_1; omega)), hG, Bw.to (hP.sub [3, 4, 5, 1, 2, 0] rfl) (hD.sub [3, 4, 5, 1, 2, 0] (by decide) rfl) (hK.sub [3, 4, 1, 2, 0] rfl) ht hW⟩⟩, hS.F ht⟩) hS.2.2 dX7_innerLine_139
                    · skip
                      have hG := hG.trans (if_pos c_6229)
                      have gc_6229 := ti_eq c_6229 rfl kc_3
                      have h_6231 := hic (by omega)
                      clear hic
                      refine lv_aload_n hx hb dX7_innerLine_119 rfl (lv_at hl 5 rfl) ?_
                      refine lv_iconst (v := 1) hx hb dX7_innerLine_120 (by decide) ?_
                      refine lv_bipush (v := 9) hx hb dX7_innerLine_121 (by decide) ?_
                      have hFc := va_free (wc := [(oc7 oM iM_thrown rM_tape iM_taped iM_size x_6223 x_6224 x_6225 x_6226 x_6227 z_6218 z_6219 iM_trouble rM_letters z_6217 iM_hasCourt rM_r rM_fresh rM_told rM_read rM_st rM_undone rM_kept iM_undos iM_images rM_fresher x_6176 iM_scale iM_night rM_heardRow rM_cutRow iM_breaths iM_cutMany iM_allBreaths rM_trial rM_words iM_fewestBreaths iM_orderMany iM_orderSum iM_leastOrder rM_often iM_setMany iM_someOf iM_allOf iM_allWeight iM_enoughWeight iM_worthSum iM_firstRest iM_leastDrawn), (arI rM_tape kM_tape 900 fM_tape), (arI rM_letters kM_letters 8 f_6228)]) hD hS hA [3, 4, 5] rfl
                      refine va_calli (va_runV (As := [.int 1, .int 9]) (rest := []) ⟨hx, hb, hml, hown, hts⟩ (tX7_number l dC dI _ oM iM_thrown rM_tape fM_tape kM_tape iM_taped iM_size x_6223 x_6224 x_6225 x_6226 x_6227 z_6218 z_6219 iM_trouble rM_letters f_6228 kM_letters z_6217 iM_hasCourt rM_r rM_fresh rM_told rM_read rM_st rM_undone rM_kept iM_undos iM_images rM_fresher x_6176 iM_scale iM_night rM_heardRow rM_cutRow iM_breaths iM_cutMany iM_allBreaths rM_trial rM_words iM_fewestBreaths iM_orderMany iM_orderSum iM_leastOrder rM_often iM_setMany iM_someOf iM_allOf iM_allWeight iM_enoughWeight iM_worthSum iM_firstRest iM_leastDrawn 1 9 (by first | omega | decide) (by first | omega | decide) (by first | exact b_x_6224 | omega | decide) (by first | exact b_x_6227 | omega | decide) (by first | exact b_z_6217 | omega | decide) (by first | omega | decide) (by first | omega | decide) (by first | omega | decide) (by first | omega | decide) (by first | omega | decide) (by first | omega | decide) (by first | assumption | exact (fun h9 => by have q0 := kc_0; have q1 := kc_1; omega)) (by first | omega | decide | assumption | (have q0 := kc_0; have q1 := kc_1; have q2 := kc_9; omega) | (intro h; exact absurd h (by decide)))) (cwV 2 hts (wd_V wd_446 wd_447 wd_448 wd_5 (wd_c wd_449)) rfl rfl rfl (by decide +kernel) ⟨Nat.le_of_ble_eq_true rfl, Nat.le_of_ble_eq_true rfl⟩) ⟨Pw.fb, va_recv hK hP (ci := 7) (q0 := 3) rfl rfl, fun U hU hW => Pw.to (hP.sub [3, 4, 5] rfl) (hD.sub [3, 4, 5] (by decide) rfl) (hK.sub [3, 4] rfl) hE hS hFc hU hW⟩ rfl rfl hl.1 rfl (lv_room (Nat.le_of_ble_eq_true rfl)) dX7_innerLine_123 ⟨Nat.le_of_ble_eq_true rfl, Nat.le_of_ble_eq_true rfl⟩) hS (fun q _ h => hFc q h) hFc (fun r u t H locs ht hvm hw hB hz1 hk1 hS => ?_)
                      have hru9 := hw.2
                      have hw := hw.1
                      obtain ⟨x_6232, x_6233, x_6234, x_6235, x_6236, x_6237, x_6238, x_6239, f_6240, b_x_6233, b_x_6236, b_x_6239, e_x_6232_0, e_x_6232_1, e_x_6232_2, e_x_6232_3, e_x_6232_4, hB⟩ := hB
                      obtain ⟨hP, hD, hK⟩ := Bw.go (ws' := [(arI rM_fresher kM_fresher 8 f_6178), (arI rM_fresh kM_fresh 287 f_6191), (arI rM_read kM_read 90 f_6192), (oc7 oM iM_thrown rM_tape iM_taped iM_size x_6232 x_6233 x_6234 x_6235 x_6236 x_6237 x_6238 iM_trouble rM_letters x_6239 iM_hasCourt rM_r rM_fresh rM_told rM_read rM_st rM_undone rM_kept iM_undos iM_images rM_fresher x_6176 iM_scale iM_night rM_heardRow rM_cutRow iM_breaths iM_cutMany iM_allBreaths rM_trial rM_words iM_fewestBreaths iM_orderMany iM_orderSum iM_leastOrder rM_often iM_setMany iM_someOf iM_allOf iM_allWeight iM_enoughWeight iM_worthSum iM_firstRest iM_leastDrawn), (arI rM_tape kM_tape 900 fM_tape), (arI rM_letters kM_letters 8 f_6240)]) (tys' := [(kM_fresher, .int), (kM_fresh, .int), (kM_read, .int), (kM_tape, .int), (kM_letters, .int)]) hB rfl ht hvm hP hD hK [3, 4, 5] [0, 1, 2] rfl (by decide) (by decide) [0, 1, 2] hk1 hFc rfl rfl rfl
                      clear hz1 hk1 hvm ht hB
                      rw [← hru9] at e_x_6232_4
                      obtain ⟨x_6241, rfl⟩ : ∃ z, z = r := ⟨_, rfl⟩
                      have hG := hG.trans (un10_eq e_x_6232_4)
                      have lx_6241 := hw.2
                      have kl_1 := kc_1
                      have kl_9 := kc_9
                      clear e_x_6223_1
                      clear e_x_6223_2
                      refine lv_goto (tgt := 130) hx hb dX7_innerLine_126 (by decide) ?_
                      refine lv_istore (lv' := [(6, .int x_6241), (5, .int x_6215), (4, .int z_6181), (3, .int z_6180), (2, .int x_6179), (0, .ref oM), (1, .int p0)]) hx hb dX7_innerLine_130 hl (by decide) rfl (fun ls hl => ?_)
                      refine lv_aload_n hx hb dX7_innerLine_132 rfl (lv_at hl 5 rfl) ?_
                      refine va_get (D := (dC, dI)) (ci := 7) (v := .int x_6239) (C := RX7) (T := TX7) (N := 48) hx hb hts inX7 hown hK hP 3 rfl rfl 13 (by decide) (hts _ wd_380) (fun _ h9 => h9) rfl dX7_innerLine_133 ?_
                      refine lv_if_eq (tgt := 140) hx hb dX7_innerLine_136 (by decide) (fun c_6242 => ?_) (fun c_6242 => ?_)
                      · skip
                        have hG := hG.trans (if_pos c_6242)
                        have gc_6242 := ti_eq c_6242 rfl kc_0
                        exfalso; clear hG; omega
                      · skip
                        have hG := hG.trans (if_neg c_6242)
                        have gc_6242 := ti_ne c_6242 rfl kc_0
                        replace gc_6242 : (-1) * x_6239.toInt + 1 ≤ 0 := by omega
                        exact W.vret hx hb hr (fun t ht hW => ⟨⟨0, rfl, trivial, ⟨x_6232, x_6233, x_6234, x_6235, x_6236, x_6237, x_6238, x_6239, x_6176, f_6240, f_6191, f_6192, f_6178, b_x_6233, b_x_6236, b_x_6239, (by first | assumption | (have q0 := kc_0; have q1 := kc_1; omega)), e_x_6232_1, (by first | assumption | (have q0 := kc_0; have q1 := kc_1; omega)), (fun h9 => by have q0 := kc_0; have q1 := kc_1; omega), (by first | assumption | (have q0 := kc_0; have q1 := kc_1; omega)), hG, Bw.to (hP.sub [3, 4, 5, 1, 2, 0] rfl) (hD.sub [3, 4, 5, 1, 2, 0] (by decide) rfl) (hK.sub [3, 4, 1, 2, 0] rfl) ht hW⟩⟩, hS.F ht⟩) hS.2.2 dX7_innerLine_139
                  · skip
                    have hG := hG.trans (if_pos c_6222)
                    have gc_6222 := ti_eq c_6222 rfl kc_0
                    have h_6243 := e_x_6212_1 (by omega)
                    clear e_x_6212_1
                    have h_6244 := lx_6215.2.1 (by omega)
                    refine lv_iload_n hx hb dX7_innerLine_96 rfl (lv_at hl 3 rfl) ?_
                    refine lv_iconst (v := 4) hx hb dX7_innerLine_97 (by decide) ?_
                    refine lv_icmp_ne (tgt := 110) hx hb dX7_innerLine_98 (by decide) (fun c_6245 => ?_) (fun c_6245 => ?_)
                    · skip
                      have hG := hG.trans (if_neg c_6245)
                      have gc_6245 := ti_ne c_6245 rfl kc_4
                      replace gc_6245 : z_6180.toInt + (-3) ≤ 0 := by omega
                      refine lv_aload_n hx hb dX7_innerLine_110 rfl (lv_at hl 5 rfl) ?_
                      have hFc := va_free (wc := [(oc7 oM iM_thrown rM_tape iM_taped iM_size z_6182 z_6183 z_6184 z_6185 z_6186 z_6218 z_6219 iM_trouble rM_letters z_6217 iM_hasCourt rM_r rM_fresh rM_told rM_read rM_st rM_undone rM_kept iM_undos iM_images rM_fresher x_6176 iM_scale iM_night rM_heardRow rM_cutRow iM_breaths iM_cutMany iM_allBreaths rM_trial rM_words iM_fewestBreaths iM_orderMany iM_orderSum iM_leastOrder rM_often iM_setMany iM_someOf iM_allOf iM_allWeight iM_enoughWeight iM_worthSum iM_firstRest iM_leastDrawn), (arI rM_tape kM_tape 900 fM_tape), (arI rM_letters kM_letters 8 f_6190)]) hD hS hA [2, 0, 3] rfl
                      refine va_callv (va_runV (As := []) (rest := []) ⟨hx, hb, hml, hown, hts⟩ (tX7_pass l dC dI _ oM iM_thrown rM_tape fM_tape kM_tape iM_taped iM_size z_6182 z_6183 z_6184 z_6185 z_6186 z_6218 z_6219 iM_trouble rM_letters f_6190 kM_letters z_6217 iM_hasCourt rM_r rM_fresh rM_told rM_read rM_st rM_undone rM_kept iM_undos iM_images rM_fresher x_6176 iM_scale iM_night rM_heardRow rM_cutRow iM_breaths iM_cutMany iM_allBreaths rM_trial rM_words iM_fewestBreaths iM_orderMany iM_orderSum iM_leastOrder rM_often iM_setMany iM_someOf iM_allOf iM_allWeight iM_enoughWeight iM_worthSum iM_firstRest iM_leastDrawn (by first | omega | decide) (by first | omega | decide) (by first | exact b_z_6183 | omega | decide) (by first | exact b_z_6186 | omega | decide) (by first | exact b_z_6217 | omega | decide) (by first | omega | decide) (by first | omega | decide) (by first | omega | decide) (by first | omega | decide) (by first | omega | decide) (by first | omega | decide) (by first | assumption | exact (fun h9 => by have q0 := kc_0; have q1 := kc_1; omega))) (cwV 0 hts (wd_V wd_454 wd_455 wd_456 wd_5 (wd_c wd_457)) rfl rfl rfl (by decide +kernel) ⟨Nat.le_of_ble_eq_true rfl, Nat.le_of_ble_eq_true rfl⟩) ⟨Pw.fb, va_recv hK hP (ci := 7) (q0 := 2) rfl rfl, fun U hU hW => Pw.to (hP.sub [2, 0, 3] rfl) (hD.sub [2, 0, 3] (by decide) rfl) (hK.sub [0, 2] rfl) hE hS hFc hU hW⟩ rfl rfl hl.1 rfl (lv_room (Nat.le_of_ble_eq_true rfl)) dX7_innerLine_111 ⟨Nat.le_of_ble_eq_true rfl, Nat.le_of_ble_eq_true rfl⟩) hS (fun q _ h => hFc q h) hFc (fun u t H locs ht hvm hw hB hz1 hk1 hS => ?_)
                      obtain ⟨x_6246, x_6247, x_6248, x_6249, x_6250, f_6251, b_x_6247, b_x_6250, e_x_6246_0, e_x_6246_1, e_x_6246_2, e_x_6246_3, hB⟩ := hB
                      obtain ⟨hP, hD, hK⟩ := Bw.go (ws' := [(arI rM_fresher kM_fresher 8 f_6178), (arI rM_fresh kM_fresh 287 f_6191), (arI rM_read kM_read 90 f_6192), (oc7 oM iM_thrown rM_tape iM_taped iM_size x_6246 x_6247 x_6248 x_6249 x_6250 z_6218 z_6219 iM_trouble rM_letters z_6217 iM_hasCourt rM_r rM_fresh rM_told rM_read rM_st rM_undone rM_kept iM_undos iM_images rM_fresher x_6176 iM_scale iM_night rM_heardRow rM_cutRow iM_breaths iM_cutMany iM_allBreaths rM_trial rM_words iM_fewestBreaths iM_orderMany iM_orderSum iM_leastOrder rM_often iM_setMany iM_someOf iM_allOf iM_allWeight iM_enoughWeight iM_worthSum iM_firstRest iM_leastDrawn), (arI rM_tape kM_tape 900 fM_tape), (arI rM_letters kM_letters 8 f_6251)]) (tys' := [(kM_fresher, .int), (kM_fresh, .int), (kM_read, .int), (kM_tape, .int), (kM_letters, .int)]) hB rfl ht hvm hP hD hK [2, 0, 3] [1, 4, 5] rfl (by decide) (by decide) [1, 3, 4] hk1 hFc rfl rfl rfl
                      clear hz1 hk1 hvm ht hB
                      have hG := hG.trans (un6_eq e_x_6246_3)
                      clear hi6_n_6193
                      clear hi8_n_6193
                      refine lv_iload_n hx hb dX7_innerLine_114 rfl (lv_at hl 6 rfl) ?_
                      refine lv_iconst (v := 3) hx hb dX7_innerLine_115 (by decide) ?_
                      refine lv_icmp_ne (tgt := 129) hx hb dX7_innerLine_116 (by decide) (fun c_6252 => ?_) (fun c_6252 => ?_)
                      · skip
                        have hG := hG.trans (if_neg c_6252)
                        have gc_6252 := ti_ne c_6252 rfl kc_3
                        replace gc_6252 : p0.toInt + (-2) ≤ 0 := by omega
                        clear hic
                        refine lv_iconst (v := 0) hx hb dX7_innerLine_129 (by decide) ?_
                        refine lv_istore (lv' := [(6, .int 0), (5, .int x_6215), (4, .int z_6181), (3, .int z_6180), (2, .int x_6179), (0, .ref oM), (1, .int p0)]) hx hb dX7_innerLine_130 hl (by decide) rfl (fun ls hl => ?_)
                        refine lv_aload_n hx hb dX7_innerLine_132 rfl (lv_at hl 5 rfl) ?_
                        refine va_get (D := (dC, dI)) (ci := 7) (v := .int z_6217) (C := RX7) (T := TX7) (N := 48) hx hb hts inX7 hown hK hP 3 rfl rfl 13 (by decide) (hts _ wd_380) (fun _ h9 => h9) rfl dX7_innerLine_133 ?_
                        refine lv_if_eq (tgt := 140) hx hb dX7_innerLine_136 (by decide) (fun c_6253 => ?_) (fun c_6253 => ?_)
                        · skip
                          have hG := hG.trans (if_pos c_6253)
                          have gc_6253 := ti_eq c_6253 rfl kc_0
                          refine lv_aload_n hx hb dX7_innerLine_140 rfl (lv_at hl 5 rfl) ?_
                          refine va_get (D := (dC, dI)) (ci := 7) (v := .ref rM_read) (C := RX7) (T := TX7) (N := 48) hx hb hts inX7 hown hK hP 3 rfl rfl 18 (by decide) (hts _ wd_158) (fun _ h9 => h9) rfl dX7_innerLine_141 ?_
                          refine lv_iconst (v := 4) hx hb dX7_innerLine_144 (by decide) ?_
                          refine lv_iload_n hx hb dX7_innerLine_145 rfl (lv_at hl 4 rfl) ?_
                          refine lv_imul hx hb dX7_innerLine_146 ?_
                          refine lv_topi (fun x_6254 ex_6254 => ?_)
                          have hG := hG.trans (lt_eq ex_6254)
                          have vx_6254 : x_6254.toInt = 4 * x_6179.toInt := by have q := ti_mul ex_6254 kc_4 rfl (by omega) (by omega); omega
                          refine lv_iload_n hx hb dX7_innerLine_147 rfl (lv_at hl 3 rfl) ?_
                          refine lv_iadd hx hb dX7_innerLine_148 ?_
                          refine lv_topi (fun x_6255 ex_6255 => ?_)
                          have hG := hG.trans (lt_eq ex_6255)
                          have vx_6255 : x_6255.toInt = 4 * x_6179.toInt + z_6180.toInt := by have q := ti_add ex_6255 vx_6254 rfl (by omega) (by omega); omega
                          refine lv_iload hx hb dX7_innerLine_149 (lv_at hl 1 rfl) ?_
                          refine va_iast hx hb hK hP hD hS 2 2 rfl rfl (ti_in vx_6255 (by omega) (by omega)) dX7_innerLine_151 (fun H locs hP hD hS => ?_)
                          obtain ⟨f_6256, ef_6256⟩ : ∃ g : Nat → Int32, g = upd f_6192 x_6255.toNatClampNeg x_6215 := ⟨_, rfl⟩
                          rw [← ef_6256] at hP hD
                          have hG := hG.trans (lt_eq ef_6256)
                          obtain ⟨hP, hD⟩ := wl2 (ws' := [(arI rM_fresher kM_fresher 8 f_6178), (arI rM_fresh kM_fresh 287 f_6191), (arI rM_read kM_read 90 f_6256), (oc7 oM iM_thrown rM_tape iM_taped iM_size x_6246 x_6247 x_6248 x_6249 x_6250 z_6218 z_6219 iM_trouble rM_letters z_6217 iM_hasCourt rM_r rM_fresh rM_told rM_read rM_st rM_undone rM_kept iM_undos iM_images rM_fresher x_6176 iM_scale iM_night rM_heardRow rM_cutRow iM_breaths iM_cutMany iM_allBreaths rM_trial rM_words iM_fewestBreaths iM_orderMany iM_orderSum iM_leastOrder rM_often iM_setMany iM_someOf iM_allOf iM_allWeight iM_enoughWeight iM_worthSum iM_firstRest iM_leastDrawn), (arI rM_tape kM_tape 900 fM_tape), (arI rM_letters kM_letters 8 f_6251)]) hP hD rfl
                          have q_n1 := ti_cl (x := f_6191 1) rfl (by omega)
                          have pk_f_6256 : POk f_6191 f_6256 := POk.prt hi2_n_6193 ef_6256 (by have q9 := ti_cl (x := x_6255) vx_6255 (by omega); omega) (by have q9 := ti_cl (x := x_6255) vx_6255 (by omega); omega)
                          refine lv_aload_n hx hb dX7_innerLine_152 rfl (lv_at hl 5 rfl) ?_
                          refine va_get (D := (dC, dI)) (ci := 7) (v := .ref rM_fresh) (C := RX7) (T := TX7) (N := 48) hx hb hts inX7 hown hK hP 3 rfl rfl 16 (by decide) (hts _ wd_156) (fun _ h9 => h9) rfl dX7_innerLine_153 ?_
                          refine lv_bipush (v := 45) hx hb dX7_innerLine_156 (by decide) ?_
                          refine lv_iconst (v := 4) hx hb dX7_innerLine_158 (by decide) ?_
                          refine lv_iload_n hx hb dX7_innerLine_159 rfl (lv_at hl 4 rfl) ?_
                          refine lv_imul hx hb dX7_innerLine_160 ?_
                          refine lv_topi (fun x_6257 ex_6257 => ?_)
                          have hG := hG.trans (lt_eq ex_6257)
                          have vx_6257 : x_6257.toInt = 4 * x_6179.toInt := by have q := ti_mul ex_6257 kc_4 rfl (by omega) (by omega); omega
                          refine lv_iadd hx hb dX7_innerLine_161 ?_
                          refine lv_topi (fun x_6258 ex_6258 => ?_)
                          have hG := hG.trans (lt_eq ex_6258)
                          have vx_6258 : x_6258.toInt = 4 * x_6179.toInt + 45 := by have q := ti_add ex_6258 kc_45 vx_6257 (by omega) (by omega); omega
                          refine lv_iload_n hx hb dX7_innerLine_162 rfl (lv_at hl 3 rfl) ?_
                          refine lv_iadd hx hb dX7_innerLine_163 ?_
                          refine lv_topi (fun x_6259 ex_6259 => ?_)
                          have hG := hG.trans (lt_eq ex_6259)
                          have vx_6259 : x_6259.toInt = 4 * x_6179.toInt + z_6180.toInt + 45 := by have q := ti_add ex_6259 vx_6258 rfl (by omega) (by omega); omega
                          refine lv_iload hx hb dX7_innerLine_164 (lv_at hl 0 rfl) ?_
                          refine va_iast hx hb hK hP hD hS 1 1 rfl rfl (ti_in vx_6259 (by omega) (by omega)) dX7_innerLine_166 (fun H locs hP hD hS => ?_)
                          obtain ⟨f_6260, ef_6260⟩ : ∃ g : Nat → Int32, g = upd f_6191 x_6259.toNatClampNeg (0 : Int32) := ⟨_, rfl⟩
                          rw [← ef_6260] at hP hD
                          have hG := hG.trans (lt_eq ef_6260)
                          obtain ⟨hP, hD⟩ := wl2 (ws' := [(arI rM_fresher kM_fresher 8 f_6178), (arI rM_fresh kM_fresh 287 f_6260), (arI rM_read kM_read 90 f_6256), (oc7 oM iM_thrown rM_tape iM_taped iM_size x_6246 x_6247 x_6248 x_6249 x_6250 z_6218 z_6219 iM_trouble rM_letters z_6217 iM_hasCourt rM_r rM_fresh rM_told rM_read rM_st rM_undone rM_kept iM_undos iM_images rM_fresher x_6176 iM_scale iM_night rM_heardRow rM_cutRow iM_breaths iM_cutMany iM_allBreaths rM_trial rM_words iM_fewestBreaths iM_orderMany iM_orderSum iM_leastOrder rM_often iM_setMany iM_someOf iM_allOf iM_allWeight iM_enoughWeight iM_worthSum iM_firstRest iM_leastDrawn), (arI rM_tape kM_tape 900 fM_tape), (arI rM_letters kM_letters 8 f_6251)]) hP hD rfl
                          have pk_f_6260 : POk f_6260 f_6256 := POk.put pk_f_6256 ef_6260 (Or.inr (Or.inr (Or.inr (Or.inr (Or.inr (Or.inl (by have q9 := ti_cl (x := x_6259) vx_6259 (by omega); have q8 := kc_0; omega)))))))
                          have pl_f_6260 := pk_f_6260.lins
                          have nn9 : (f_6191 1).toNatClampNeg = x_6179.toNatClampNeg := by have q1 := ti_cl (x := x_6179) rfl (by omega); have q2 := ti_cl (x := f_6191 1) rfl (by omega); have q3 := ti_cl (x := z_6180) rfl (by omega); omega
                          have in9 : InOk f_6260 f_6256 (f_6260 1).toNatClampNeg (z_6180.toNatClampNeg + 1) p0.toInt := in_step hi3_n_6193 rfl ef_6256 (by have q1 := ti_cl (x := x_6179) rfl (by omega); have q2 := ti_cl (x := f_6191 1) rfl (by omega); have q3 := ti_cl (x := z_6180) rfl (by omega); have q9 := ti_cl (x := x_6255) vx_6255 (by omega); omega) ef_6260 (by have q1 := ti_cl (x := x_6179) rfl (by omega); have q2 := ti_cl (x := f_6191 1) rfl (by omega); have q3 := ti_cl (x := z_6180) rfl (by omega); have q9 := ti_cl (x := x_6259) vx_6259 (by omega); omega) (by omega) (by have q1 := ti_cl (x := x_6179) rfl (by omega); have q2 := ti_cl (x := f_6191 1) rfl (by omega); have q3 := ti_cl (x := z_6180) rfl (by omega); omega) (fun i9 h9 => by rw [nn9]; exact hi2_n_6220 (by omega) i9 (by have q1 := ti_cl (x := x_6179) rfl (by omega); have q2 := ti_cl (x := f_6191 1) rfl (by omega); have q3 := ti_cl (x := z_6180) rfl (by omega); have q4 := ti_cl (x := z_6216) rfl (by omega); omega)) (fun h9 => by have q0 := kc_0; omega) rfl
                          have o1_f_6260 : (f_6260 1).toInt = (f_6191 1).toInt := put_at ef_6260 (by have q9 := ti_cl (x := x_6259) vx_6259 (by omega); omega)
                          have o7_f_6260 : (f_6260 7).toInt = (f_6191 7).toInt := put_at ef_6260 (by have q9 := ti_cl (x := x_6259) vx_6259 (by omega); omega)
                          have o8_f_6260 : (f_6260 8).toInt = (f_6191 8).toInt := put_at ef_6260 (by have q9 := ti_cl (x := x_6259) vx_6259 (by omega); omega)
                          obtain ⟨x_6261, ex_6261⟩ : ∃ z : Int32, z = z_6180 + Int32.ofInt 1 := ⟨_, rfl⟩
                          have hG := hG.trans (lt_eq ex_6261)
                          have vx_6261 : x_6261.toInt = z_6180.toInt + 1 := by have q := ti_add (y := 1) ex_6261 rfl kc_1 (by omega) (by omega); omega
                          refine lv_iinc (v := x_6261) (lv' := [(3, .int x_6261), (6, .int 0), (5, .int x_6215), (4, .int z_6181), (2, .int x_6179), (0, .ref oM), (1, .int p0)]) hx hb dX7_innerLine_167 hl (k := 3) rfl ex_6261.symm (by decide) rfl (fun ls hl => ?_)
                          refine lv_aload_n hx hb dX7_innerLine_170 rfl (lv_at hl 5 rfl) ?_
                          refine va_get (D := (dC, dI)) (ci := 7) (v := .int x_6248) (C := RX7) (T := TX7) (N := 48) hx hb hts inX7 hown hK hP 3 rfl rfl 6 (by decide) (hts _ wd_383) (fun _ h9 => h9) rfl dX7_innerLine_171 ?_
                          refine lv_bipush (v := 44) hx hb dX7_innerLine_174 (by decide) ?_
                          refine lv_icmp_ne (tgt := 183) hx hb dX7_innerLine_176 (by decide) (fun c_6262 => ?_) (fun c_6262 => ?_)
                          · skip
                            have hG := hG.trans (if_neg c_6262)
                            have gc_6262 := ti_ne c_6262 rfl kc_44
                            clear gc_6262
                            refine lv_iconst (v := 0) hx hb dX7_innerLine_183 (by decide) ?_
                            refine lv_istore (lv' := [(4, .int 0), (3, .int x_6261), (6, .int 0), (5, .int x_6215), (2, .int x_6179), (0, .ref oM), (1, .int p0)]) hx hb dX7_innerLine_184 hl (by decide) rfl (fun ls hl => ?_)
                            refine lv_iload hx hb dX7_innerLine_186 (lv_at hl 0 rfl) ?_
                            refine lv_if_eq (tgt := 195) hx hb dX7_innerLine_188 (by decide) (fun _ => ?_) (fun c => absurd c (by decide))
                            refine lv_goto (tgt := 24) hx hb dX7_innerLine_195 (by decide) ?_
                            exact ih_n_6193 x_6261 0 x_6246 x_6247 x_6248 x_6249 x_6250 z_6218 z_6219 z_6217 f_6251 f_6260 f_6256 _ _ _ b_x_6247 b_x_6250 b_z_6217 (by first | omega | decide | assumption) (by first | omega | decide | assumption) (by assumption) (by rw [show x_6261.toNatClampNeg = z_6180.toNatClampNeg + 1 from (by have q1 := ti_cl (x := x_6261) vx_6261 (by omega); have q2 := ti_cl (x := z_6180) rfl (by omega); omega)]; exact in9) (by first | omega | decide | assumption) (fun h9 => by have q0 := kc_0; have q1 := kc_1; omega) e_x_6246_1 (by first | omega | decide | assumption) (fun h9 => by have q0 := kc_0; have q1 := kc_1; have q9 := e_x_6246_2 (by omega); omega) (by omega) hG (hP.sub [3, 4, 5, 1, 2, 0] rfl) (hD.sub [3, 4, 5, 1, 2, 0] (by decide) rfl) hS (lv_sub hl [0, 1, 4, 5, 6] rfl)
                          · skip
                            have hG := hG.trans (if_pos c_6262)
                            have gc_6262 := ti_eq c_6262 rfl kc_44
                            refine lv_iconst (v := 1) hx hb dX7_innerLine_179 (by decide) ?_
                            refine lv_goto (tgt := 184) hx hb dX7_innerLine_180 (by decide) ?_
                            refine lv_istore (lv' := [(4, .int 1), (3, .int x_6261), (6, .int 0), (5, .int x_6215), (2, .int x_6179), (0, .ref oM), (1, .int p0)]) hx hb dX7_innerLine_184 hl (by decide) rfl (fun ls hl => ?_)
                            refine lv_iload hx hb dX7_innerLine_186 (lv_at hl 0 rfl) ?_
                            refine lv_if_eq (tgt := 195) hx hb dX7_innerLine_188 (by decide) (fun c => absurd c (by decide)) (fun _ => ?_)
                            refine lv_aload_n hx hb dX7_innerLine_191 rfl (lv_at hl 5 rfl) ?_
                            have hFc := va_free (wc := [(oc7 oM iM_thrown rM_tape iM_taped iM_size x_6246 x_6247 x_6248 x_6249 x_6250 z_6218 z_6219 iM_trouble rM_letters z_6217 iM_hasCourt rM_r rM_fresh rM_told rM_read rM_st rM_undone rM_kept iM_undos iM_images rM_fresher x_6176 iM_scale iM_night rM_heardRow rM_cutRow iM_breaths iM_cutMany iM_allBreaths rM_trial rM_words iM_fewestBreaths iM_orderMany iM_orderSum iM_leastOrder rM_often iM_setMany iM_someOf iM_allOf iM_allWeight iM_enoughWeight iM_worthSum iM_firstRest iM_leastDrawn), (arI rM_tape kM_tape 900 fM_tape), (arI rM_letters kM_letters 8 f_6251)]) hD hS hA [3, 4, 5] rfl
                            refine va_callv (va_runV (As := []) (rest := []) ⟨hx, hb, hml, hown, hts⟩ (tX7_next l dC dI _ oM iM_thrown rM_tape fM_tape kM_tape iM_taped iM_size x_6246 x_6247 x_6248 x_6249 x_6250 z_6218 z_6219 iM_trouble rM_letters f_6251 kM_letters z_6217 iM_hasCourt rM_r rM_fresh rM_told rM_read rM_st rM_undone rM_kept iM_undos iM_images rM_fresher x_6176 iM_scale iM_night rM_heardRow rM_cutRow iM_breaths iM_cutMany iM_allBreaths rM_trial rM_words iM_fewestBreaths iM_orderMany iM_orderSum iM_leastOrder rM_often iM_setMany iM_someOf iM_allOf iM_allWeight iM_enoughWeight iM_worthSum iM_firstRest iM_leastDrawn (by first | omega | decide) (by first | omega | decide) (by first | exact b_x_6247 | omega | decide) (by first | exact b_x_6250 | omega | decide) (by first | exact b_z_6217 | omega | decide) (by first | omega | decide) (by first | omega | decide) (by first | omega | decide) (by first | omega | decide) (by first | omega | decide) (by first | omega | decide) (by first | assumption | exact (fun h9 => by have q0 := kc_0; have q1 := kc_1; omega))) (cwV 0 hts (wd_V wd_400 wd_401 wd_402 wd_5 (wd_c wd_403)) rfl rfl rfl (by decide +kernel) ⟨Nat.le_of_ble_eq_true rfl, Nat.le_of_ble_eq_true rfl⟩) ⟨Pw.fb, va_recv hK hP (ci := 7) (q0 := 3) rfl rfl, fun U hU hW => Pw.to (hP.sub [3, 4, 5] rfl) (hD.sub [3, 4, 5] (by decide) rfl) (hK.sub [3, 4] rfl) hE hS hFc hU hW⟩ rfl rfl hl.1 rfl (lv_room (Nat.le_of_ble_eq_true rfl)) dX7_innerLine_192 ⟨Nat.le_of_ble_eq_true rfl, Nat.le_of_ble_eq_true rfl⟩) hS (fun q _ h => hFc q h) hFc (fun u t H locs ht hvm hw hB hz1 hk1 hS => ?_)
                            obtain ⟨x_6265, x_6266, x_6267, x_6268, x_6269, f_6270, b_x_6266, b_x_6269, e_x_6265_0, e_x_6265_1, e_x_6265_2, e_x_6265_3, hB⟩ := hB
                            obtain ⟨hP, hD, hK⟩ := Bw.go (ws' := [(arI rM_fresher kM_fresher 8 f_6178), (arI rM_fresh kM_fresh 287 f_6260), (arI rM_read kM_read 90 f_6256), (oc7 oM iM_thrown rM_tape iM_taped iM_size x_6265 x_6266 x_6267 x_6268 x_6269 z_6218 z_6219 iM_trouble rM_letters z_6217 iM_hasCourt rM_r rM_fresh rM_told rM_read rM_st rM_undone rM_kept iM_undos iM_images rM_fresher x_6176 iM_scale iM_night rM_heardRow rM_cutRow iM_breaths iM_cutMany iM_allBreaths rM_trial rM_words iM_fewestBreaths iM_orderMany iM_orderSum iM_leastOrder rM_often iM_setMany iM_someOf iM_allOf iM_allWeight iM_enoughWeight iM_worthSum iM_firstRest iM_leastDrawn), (arI rM_tape kM_tape 900 fM_tape), (arI rM_letters kM_letters 8 f_6270)]) (tys' := [(kM_fresher, .int), (kM_fresh, .int), (kM_read, .int), (kM_tape, .int), (kM_letters, .int)]) hB rfl ht hvm hP hD hK [3, 4, 5] [0, 1, 2] rfl (by decide) (by decide) [0, 1, 2] hk1 hFc rfl rfl rfl
                            clear hz1 hk1 hvm ht hB
                            have hG := hG.trans (un6_eq e_x_6265_3)
                            clear e_x_6246_1
                            clear e_x_6246_2
                            refine lv_goto (tgt := 24) hx hb dX7_innerLine_195 (by decide) ?_
                            exact ih_n_6193 x_6261 1 x_6265 x_6266 x_6267 x_6268 x_6269 z_6218 z_6219 z_6217 f_6270 f_6260 f_6256 _ _ _ b_x_6266 b_x_6269 b_z_6217 (by first | omega | decide | assumption) (by first | omega | decide | assumption) (by assumption) (by rw [show x_6261.toNatClampNeg = z_6180.toNatClampNeg + 1 from (by have q1 := ti_cl (x := x_6261) vx_6261 (by omega); have q2 := ti_cl (x := z_6180) rfl (by omega); omega)]; exact in9) (by first | omega | decide | assumption) (fun h9 => by have q0 := kc_0; have q1 := kc_1; omega) e_x_6265_1 (by first | omega | decide | assumption) (fun h9 => by have q0 := kc_0; have q1 := kc_1; have q9 := e_x_6265_2 (by omega); omega) (by omega) hG (hP.sub [3, 4, 5, 1, 2, 0] rfl) (hD.sub [3, 4, 5, 1, 2, 0] (by decide) rfl) hS (lv_sub hl [0, 1, 4, 5, 6] rfl)
                        · skip
                          have hG := hG.trans (if_neg c_6253)
                          have gc_6253 := ti_ne c_6253 rfl kc_0
                          replace gc_6253 : z_6217.toInt + 1 ≤ 0 := by omega
                          exfalso; clear hG; omega
                      · skip
                        have hG := hG.trans (if_pos c_6252)
                        have gc_6252 := ti_eq c_6252 rfl kc_3
                        have h_6271 := hic (by omega)
                        clear hic
                        refine lv_aload_n hx hb dX7_innerLine_119 rfl (lv_at hl 5 rfl) ?_
                        refine lv_iconst (v := 1) hx hb dX7_innerLine_120 (by decide) ?_
                        refine lv_bipush (v := 9) hx hb dX7_innerLine_121 (by decide) ?_
                        have hFc := va_free (wc := [(oc7 oM iM_thrown rM_tape iM_taped iM_size x_6246 x_6247 x_6248 x_6249 x_6250 z_6218 z_6219 iM_trouble rM_letters z_6217 iM_hasCourt rM_r rM_fresh rM_told rM_read rM_st rM_undone rM_kept iM_undos iM_images rM_fresher x_6176 iM_scale iM_night rM_heardRow rM_cutRow iM_breaths iM_cutMany iM_allBreaths rM_trial rM_words iM_fewestBreaths iM_orderMany iM_orderSum iM_leastOrder rM_often iM_setMany iM_someOf iM_allOf iM_allWeight iM_enoughWeight iM_worthSum iM_firstRest iM_leastDrawn), (arI rM_tape kM_tape 900 fM_tape), (arI rM_letters kM_letters 8 f_6251)]) hD hS hA [3, 4, 5] rfl
                        refine va_calli (va_runV (As := [.int 1, .int 9]) (rest := []) ⟨hx, hb, hml, hown, hts⟩ (tX7_number l dC dI _ oM iM_thrown rM_tape fM_tape kM_tape iM_taped iM_size x_6246 x_6247 x_6248 x_6249 x_6250 z_6218 z_6219 iM_trouble rM_letters f_6251 kM_letters z_6217 iM_hasCourt rM_r rM_fresh rM_told rM_read rM_st rM_undone rM_kept iM_undos iM_images rM_fresher x_6176 iM_scale iM_night rM_heardRow rM_cutRow iM_breaths iM_cutMany iM_allBreaths rM_trial rM_words iM_fewestBreaths iM_orderMany iM_orderSum iM_leastOrder rM_often iM_setMany iM_someOf iM_allOf iM_allWeight iM_enoughWeight iM_worthSum iM_firstRest iM_leastDrawn 1 9 (by first | omega | decide) (by first | omega | decide) (by first | exact b_x_6247 | omega | decide) (by first | exact b_x_6250 | omega | decide) (by first | exact b_z_6217 | omega | decide) (by first | omega | decide) (by first | omega | decide) (by first | omega | decide) (by first | omega | decide) (by first | omega | decide) (by first | omega | decide) (by first | assumption | exact (fun h9 => by have q0 := kc_0; have q1 := kc_1; omega)) (by first | omega | decide | assumption | (have q0 := kc_0; have q1 := kc_1; have q2 := kc_9; omega) | (intro h; exact absurd h (by decide)))) (cwV 2 hts (wd_V wd_446 wd_447 wd_448 wd_5 (wd_c wd_449)) rfl rfl rfl (by decide +kernel) ⟨Nat.le_of_ble_eq_true rfl, Nat.le_of_ble_eq_true rfl⟩) ⟨Pw.fb, va_recv hK hP (ci := 7) (q0 := 3) rfl rfl, fun U hU hW => Pw.to (hP.sub [3, 4, 5] rfl) (hD.sub [3, 4, 5] (by decide) rfl) (hK.sub [3, 4] rfl) hE hS hFc hU hW⟩ rfl rfl hl.1 rfl (lv_room (Nat.le_of_ble_eq_true rfl)) dX7_innerLine_123 ⟨Nat.le_of_ble_eq_true rfl, Nat.le_of_ble_eq_true rfl⟩) hS (fun q _ h => hFc q h) hFc (fun r u t H locs ht hvm hw hB hz1 hk1 hS => ?_)
                        have hru9 := hw.2
                        have hw := hw.1
                        obtain ⟨x_6272, x_6273, x_6274, x_6275, x_6276, x_6277, x_6278, x_6279, f_6280, b_x_6273, b_x_6276, b_x_6279, e_x_6272_0, e_x_6272_1, e_x_6272_2, e_x_6272_3, e_x_6272_4, hB⟩ := hB
                        obtain ⟨hP, hD, hK⟩ := Bw.go (ws' := [(arI rM_fresher kM_fresher 8 f_6178), (arI rM_fresh kM_fresh 287 f_6191), (arI rM_read kM_read 90 f_6192), (oc7 oM iM_thrown rM_tape iM_taped iM_size x_6272 x_6273 x_6274 x_6275 x_6276 x_6277 x_6278 iM_trouble rM_letters x_6279 iM_hasCourt rM_r rM_fresh rM_told rM_read rM_st rM_undone rM_kept iM_undos iM_images rM_fresher x_6176 iM_scale iM_night rM_heardRow rM_cutRow iM_breaths iM_cutMany iM_allBreaths rM_trial rM_words iM_fewestBreaths iM_orderMany iM_orderSum iM_leastOrder rM_often iM_setMany iM_someOf iM_allOf iM_allWeight iM_enoughWeight iM_worthSum iM_firstRest iM_leastDrawn), (arI rM_tape kM_tape 900 fM_tape), (arI rM_letters kM_letters 8 f_6280)]) (tys' := [(kM_fresher, .int), (kM_fresh, .int), (kM_read, .int), (kM_tape, .int), (kM_letters, .int)]) hB rfl ht hvm hP hD hK [3, 4, 5] [0, 1, 2] rfl (by decide) (by decide) [0, 1, 2] hk1 hFc rfl rfl rfl
                        clear hz1 hk1 hvm ht hB
                        rw [← hru9] at e_x_6272_4
                        obtain ⟨x_6281, rfl⟩ : ∃ z, z = r := ⟨_, rfl⟩
                        have hG := hG.trans (un10_eq e_x_6272_4)
                        have lx_6281 := hw.2
                        have kl_1 := kc_1
                        have kl_9 := kc_9
                        clear e_x_6246_1
                        clear e_x_6246_2
                        refine lv_goto (tgt := 130) hx hb dX7_innerLine_126 (by decide) ?_
                        refine lv_istore (lv' := [(6, .int x_6281), (5, .int x_6215), (4, .int z_6181), (3, .int z_6180), (2, .int x_6179), (0, .ref oM), (1, .int p0)]) hx hb dX7_innerLine_130 hl (by decide) rfl (fun ls hl => ?_)
                        refine lv_aload_n hx hb dX7_innerLine_132 rfl (lv_at hl 5 rfl) ?_
                        refine va_get (D := (dC, dI)) (ci := 7) (v := .int x_6279) (C := RX7) (T := TX7) (N := 48) hx hb hts inX7 hown hK hP 3 rfl rfl 13 (by decide) (hts _ wd_380) (fun _ h9 => h9) rfl dX7_innerLine_133 ?_
                        refine lv_if_eq (tgt := 140) hx hb dX7_innerLine_136 (by decide) (fun c_6282 => ?_) (fun c_6282 => ?_)
                        · skip
                          have hG := hG.trans (if_pos c_6282)
                          have gc_6282 := ti_eq c_6282 rfl kc_0
                          refine lv_aload_n hx hb dX7_innerLine_140 rfl (lv_at hl 5 rfl) ?_
                          refine va_get (D := (dC, dI)) (ci := 7) (v := .ref rM_read) (C := RX7) (T := TX7) (N := 48) hx hb hts inX7 hown hK hP 3 rfl rfl 18 (by decide) (hts _ wd_158) (fun _ h9 => h9) rfl dX7_innerLine_141 ?_
                          refine lv_iconst (v := 4) hx hb dX7_innerLine_144 (by decide) ?_
                          refine lv_iload_n hx hb dX7_innerLine_145 rfl (lv_at hl 4 rfl) ?_
                          refine lv_imul hx hb dX7_innerLine_146 ?_
                          refine lv_topi (fun x_6283 ex_6283 => ?_)
                          have hG := hG.trans (lt_eq ex_6283)
                          have vx_6283 : x_6283.toInt = 4 * x_6179.toInt := by have q := ti_mul ex_6283 kc_4 rfl (by omega) (by omega); omega
                          refine lv_iload_n hx hb dX7_innerLine_147 rfl (lv_at hl 3 rfl) ?_
                          refine lv_iadd hx hb dX7_innerLine_148 ?_
                          refine lv_topi (fun x_6284 ex_6284 => ?_)
                          have hG := hG.trans (lt_eq ex_6284)
                          have vx_6284 : x_6284.toInt = 4 * x_6179.toInt + z_6180.toInt := by have q := ti_add ex_6284 vx_6283 rfl (by omega) (by omega); omega
                          refine lv_iload hx hb dX7_innerLine_149 (lv_at hl 1 rfl) ?_
                          refine va_iast hx hb hK hP hD hS 2 2 rfl rfl (ti_in vx_6284 (by omega) (by omega)) dX7_innerLine_151 (fun H locs hP hD hS => ?_)
                          obtain ⟨f_6285, ef_6285⟩ : ∃ g : Nat → Int32, g = upd f_6192 x_6284.toNatClampNeg x_6215 := ⟨_, rfl⟩
                          rw [← ef_6285] at hP hD
                          have hG := hG.trans (lt_eq ef_6285)
                          obtain ⟨hP, hD⟩ := wl2 (ws' := [(arI rM_fresher kM_fresher 8 f_6178), (arI rM_fresh kM_fresh 287 f_6191), (arI rM_read kM_read 90 f_6285), (oc7 oM iM_thrown rM_tape iM_taped iM_size x_6272 x_6273 x_6274 x_6275 x_6276 x_6277 x_6278 iM_trouble rM_letters x_6279 iM_hasCourt rM_r rM_fresh rM_told rM_read rM_st rM_undone rM_kept iM_undos iM_images rM_fresher x_6176 iM_scale iM_night rM_heardRow rM_cutRow iM_breaths iM_cutMany iM_allBreaths rM_trial rM_words iM_fewestBreaths iM_orderMany iM_orderSum iM_leastOrder rM_often iM_setMany iM_someOf iM_allOf iM_allWeight iM_enoughWeight iM_worthSum iM_firstRest iM_leastDrawn), (arI rM_tape kM_tape 900 fM_tape), (arI rM_letters kM_letters 8 f_6280)]) hP hD rfl
                          have q_n1 := ti_cl (x := f_6191 1) rfl (by omega)
                          have pk_f_6285 : POk f_6191 f_6285 := POk.prt hi2_n_6193 ef_6285 (by have q9 := ti_cl (x := x_6284) vx_6284 (by omega); omega) (by have q9 := ti_cl (x := x_6284) vx_6284 (by omega); omega)
                          refine lv_aload_n hx hb dX7_innerLine_152 rfl (lv_at hl 5 rfl) ?_
                          refine va_get (D := (dC, dI)) (ci := 7) (v := .ref rM_fresh) (C := RX7) (T := TX7) (N := 48) hx hb hts inX7 hown hK hP 3 rfl rfl 16 (by decide) (hts _ wd_156) (fun _ h9 => h9) rfl dX7_innerLine_153 ?_
                          refine lv_bipush (v := 45) hx hb dX7_innerLine_156 (by decide) ?_
                          refine lv_iconst (v := 4) hx hb dX7_innerLine_158 (by decide) ?_
                          refine lv_iload_n hx hb dX7_innerLine_159 rfl (lv_at hl 4 rfl) ?_
                          refine lv_imul hx hb dX7_innerLine_160 ?_
                          refine lv_topi (fun x_6286 ex_6286 => ?_)
                          have hG := hG.trans (lt_eq ex_6286)
                          have vx_6286 : x_6286.toInt = 4 * x_6179.toInt := by have q := ti_mul ex_6286 kc_4 rfl (by omega) (by omega); omega
                          refine lv_iadd hx hb dX7_innerLine_161 ?_
                          refine lv_topi (fun x_6287 ex_6287 => ?_)
                          have hG := hG.trans (lt_eq ex_6287)
                          have vx_6287 : x_6287.toInt = 4 * x_6179.toInt + 45 := by have q := ti_add ex_6287 kc_45 vx_6286 (by omega) (by omega); omega
                          refine lv_iload_n hx hb dX7_innerLine_162 rfl (lv_at hl 3 rfl) ?_
                          refine lv_iadd hx hb dX7_innerLine_163 ?_
                          refine lv_topi (fun x_6288 ex_6288 => ?_)
                          have hG := hG.trans (lt_eq ex_6288)
                          have vx_6288 : x_6288.toInt = 4 * x_6179.toInt + z_6180.toInt + 45 := by have q := ti_add ex_6288 vx_6287 rfl (by omega) (by omega); omega
                          refine lv_iload hx hb dX7_innerLine_164 (lv_at hl 0 rfl) ?_
                          refine va_iast hx hb hK hP hD hS 1 1 rfl rfl (ti_in vx_6288 (by omega) (by omega)) dX7_innerLine_166 (fun H locs hP hD hS => ?_)
                          obtain ⟨f_6289, ef_6289⟩ : ∃ g : Nat → Int32, g = upd f_6191 x_6288.toNatClampNeg x_6281 := ⟨_, rfl⟩
                          rw [← ef_6289] at hP hD
                          have hG := hG.trans (lt_eq ef_6289)
                          obtain ⟨hP, hD⟩ := wl2 (ws' := [(arI rM_fresher kM_fresher 8 f_6178), (arI rM_fresh kM_fresh 287 f_6289), (arI rM_read kM_read 90 f_6285), (oc7 oM iM_thrown rM_tape iM_taped iM_size x_6272 x_6273 x_6274 x_6275 x_6276 x_6277 x_6278 iM_trouble rM_letters x_6279 iM_hasCourt rM_r rM_fresh rM_told rM_read rM_st rM_undone rM_kept iM_undos iM_images rM_fresher x_6176 iM_scale iM_night rM_heardRow rM_cutRow iM_breaths iM_cutMany iM_allBreaths rM_trial rM_words iM_fewestBreaths iM_orderMany iM_orderSum iM_leastOrder rM_often iM_setMany iM_someOf iM_allOf iM_allWeight iM_enoughWeight iM_worthSum iM_firstRest iM_leastDrawn), (arI rM_tape kM_tape 900 fM_tape), (arI rM_letters kM_letters 8 f_6280)]) hP hD rfl
                          have pk_f_6289 : POk f_6289 f_6285 := POk.put pk_f_6285 ef_6289 (Or.inr (Or.inr (Or.inr (Or.inr (Or.inr (Or.inl (by have q9 := ti_cl (x := x_6288) vx_6288 (by omega); omega)))))))
                          have pl_f_6289 := pk_f_6289.lins
                          have nn9 : (f_6191 1).toNatClampNeg = x_6179.toNatClampNeg := by have q1 := ti_cl (x := x_6179) rfl (by omega); have q2 := ti_cl (x := f_6191 1) rfl (by omega); have q3 := ti_cl (x := z_6180) rfl (by omega); omega
                          have in9 : InOk f_6289 f_6285 (f_6289 1).toNatClampNeg (z_6180.toNatClampNeg + 1) p0.toInt := in_step hi3_n_6193 rfl ef_6285 (by have q1 := ti_cl (x := x_6179) rfl (by omega); have q2 := ti_cl (x := f_6191 1) rfl (by omega); have q3 := ti_cl (x := z_6180) rfl (by omega); have q9 := ti_cl (x := x_6284) vx_6284 (by omega); omega) ef_6289 (by have q1 := ti_cl (x := x_6179) rfl (by omega); have q2 := ti_cl (x := f_6191 1) rfl (by omega); have q3 := ti_cl (x := z_6180) rfl (by omega); have q9 := ti_cl (x := x_6288) vx_6288 (by omega); omega) (by omega) (by have q1 := ti_cl (x := x_6179) rfl (by omega); have q2 := ti_cl (x := f_6191 1) rfl (by omega); have q3 := ti_cl (x := z_6180) rfl (by omega); omega) (fun i9 h9 => by rw [nn9]; exact hi2_n_6220 (by omega) i9 (by have q1 := ti_cl (x := x_6179) rfl (by omega); have q2 := ti_cl (x := f_6191 1) rfl (by omega); have q3 := ti_cl (x := z_6180) rfl (by omega); have q4 := ti_cl (x := z_6216) rfl (by omega); omega)) (fun h9 => by have q0 := kc_0; omega) rfl
                          have o1_f_6289 : (f_6289 1).toInt = (f_6191 1).toInt := put_at ef_6289 (by have q9 := ti_cl (x := x_6288) vx_6288 (by omega); omega)
                          have o7_f_6289 : (f_6289 7).toInt = (f_6191 7).toInt := put_at ef_6289 (by have q9 := ti_cl (x := x_6288) vx_6288 (by omega); omega)
                          have o8_f_6289 : (f_6289 8).toInt = (f_6191 8).toInt := put_at ef_6289 (by have q9 := ti_cl (x := x_6288) vx_6288 (by omega); omega)
                          obtain ⟨x_6290, ex_6290⟩ : ∃ z : Int32, z = z_6180 + Int32.ofInt 1 := ⟨_, rfl⟩
                          have hG := hG.trans (lt_eq ex_6290)
                          have vx_6290 : x_6290.toInt = z_6180.toInt + 1 := by have q := ti_add (y := 1) ex_6290 rfl kc_1 (by omega) (by omega); omega
                          refine lv_iinc (v := x_6290) (lv' := [(3, .int x_6290), (6, .int x_6281), (5, .int x_6215), (4, .int z_6181), (2, .int x_6179), (0, .ref oM), (1, .int p0)]) hx hb dX7_innerLine_167 hl (k := 3) rfl ex_6290.symm (by decide) rfl (fun ls hl => ?_)
                          refine lv_aload_n hx hb dX7_innerLine_170 rfl (lv_at hl 5 rfl) ?_
                          refine va_get (D := (dC, dI)) (ci := 7) (v := .int x_6274) (C := RX7) (T := TX7) (N := 48) hx hb hts inX7 hown hK hP 3 rfl rfl 6 (by decide) (hts _ wd_383) (fun _ h9 => h9) rfl dX7_innerLine_171 ?_
                          refine lv_bipush (v := 44) hx hb dX7_innerLine_174 (by decide) ?_
                          refine lv_icmp_ne (tgt := 183) hx hb dX7_innerLine_176 (by decide) (fun c_6291 => ?_) (fun c_6291 => ?_)
                          · skip
                            have hG := hG.trans (if_neg c_6291)
                            have gc_6291 := ti_ne c_6291 rfl kc_44
                            clear gc_6291
                            refine lv_iconst (v := 0) hx hb dX7_innerLine_183 (by decide) ?_
                            refine lv_istore (lv' := [(4, .int 0), (3, .int x_6290), (6, .int x_6281), (5, .int x_6215), (2, .int x_6179), (0, .ref oM), (1, .int p0)]) hx hb dX7_innerLine_184 hl (by decide) rfl (fun ls hl => ?_)
                            refine lv_iload hx hb dX7_innerLine_186 (lv_at hl 0 rfl) ?_
                            refine lv_if_eq (tgt := 195) hx hb dX7_innerLine_188 (by decide) (fun _ => ?_) (fun c => absurd c (by decide))
                            refine lv_goto (tgt := 24) hx hb dX7_innerLine_195 (by decide) ?_
                            exact ih_n_6193 x_6290 0 x_6272 x_6273 x_6274 x_6275 x_6276 x_6277 x_6278 x_6279 f_6280 f_6289 f_6285 _ _ _ b_x_6273 b_x_6276 b_x_6279 (by first | omega | decide | assumption) (by first | omega | decide | assumption) (by assumption) (by rw [show x_6290.toNatClampNeg = z_6180.toNatClampNeg + 1 from (by have q1 := ti_cl (x := x_6290) vx_6290 (by omega); have q2 := ti_cl (x := z_6180) rfl (by omega); omega)]; exact in9) (by first | omega | decide | assumption) (fun h9 => by have q0 := kc_0; have q1 := kc_1; omega) e_x_6272_1 (by first | omega | decide | assumption) (fun h9 => by have q0 := kc_0; have q1 := kc_1; have q9 := e_x_6272_3 (by omega); omega) (by omega) hG (hP.sub [3, 4, 5, 1, 2, 0] rfl) (hD.sub [3, 4, 5, 1, 2, 0] (by decide) rfl) hS (lv_sub hl [0, 1, 4, 5, 6] rfl)
                          · skip
                            have hG := hG.trans (if_pos c_6291)
                            have gc_6291 := ti_eq c_6291 rfl kc_44
                            refine lv_iconst (v := 1) hx hb dX7_innerLine_179 (by decide) ?_
                            refine lv_goto (tgt := 184) hx hb dX7_innerLine_180 (by decide) ?_
                            refine lv_istore (lv' := [(4, .int 1), (3, .int x_6290), (6, .int x_6281), (5, .int x_6215), (2, .int x_6179), (0, .ref oM), (1, .int p0)]) hx hb dX7_innerLine_184 hl (by decide) rfl (fun ls hl => ?_)
                            refine lv_iload hx hb dX7_innerLine_186 (lv_at hl 0 rfl) ?_
                            refine lv_if_eq (tgt := 195) hx hb dX7_innerLine_188 (by decide) (fun c => absurd c (by decide)) (fun _ => ?_)
                            refine lv_aload_n hx hb dX7_innerLine_191 rfl (lv_at hl 5 rfl) ?_
                            have hFc := va_free (wc := [(oc7 oM iM_thrown rM_tape iM_taped iM_size x_6272 x_6273 x_6274 x_6275 x_6276 x_6277 x_6278 iM_trouble rM_letters x_6279 iM_hasCourt rM_r rM_fresh rM_told rM_read rM_st rM_undone rM_kept iM_undos iM_images rM_fresher x_6176 iM_scale iM_night rM_heardRow rM_cutRow iM_breaths iM_cutMany iM_allBreaths rM_trial rM_words iM_fewestBreaths iM_orderMany iM_orderSum iM_leastOrder rM_often iM_setMany iM_someOf iM_allOf iM_allWeight iM_enoughWeight iM_worthSum iM_firstRest iM_leastDrawn), (arI rM_tape kM_tape 900 fM_tape), (arI rM_letters kM_letters 8 f_6280)]) hD hS hA [3, 4, 5] rfl
                            refine va_callv (va_runV (As := []) (rest := []) ⟨hx, hb, hml, hown, hts⟩ (tX7_next l dC dI _ oM iM_thrown rM_tape fM_tape kM_tape iM_taped iM_size x_6272 x_6273 x_6274 x_6275 x_6276 x_6277 x_6278 iM_trouble rM_letters f_6280 kM_letters x_6279 iM_hasCourt rM_r rM_fresh rM_told rM_read rM_st rM_undone rM_kept iM_undos iM_images rM_fresher x_6176 iM_scale iM_night rM_heardRow rM_cutRow iM_breaths iM_cutMany iM_allBreaths rM_trial rM_words iM_fewestBreaths iM_orderMany iM_orderSum iM_leastOrder rM_often iM_setMany iM_someOf iM_allOf iM_allWeight iM_enoughWeight iM_worthSum iM_firstRest iM_leastDrawn (by first | omega | decide) (by first | omega | decide) (by first | exact b_x_6273 | omega | decide) (by first | exact b_x_6276 | omega | decide) (by first | exact b_x_6279 | omega | decide) (by first | omega | decide) (by first | omega | decide) (by first | omega | decide) (by first | omega | decide) (by first | omega | decide) (by first | omega | decide) (by first | assumption | exact (fun h9 => by have q0 := kc_0; have q1 := kc_1; omega))) (cwV 0 hts (wd_V wd_400 wd_401 wd_402 wd_5 (wd_c wd_403)) rfl rfl rfl (by decide +kernel) ⟨Nat.le_of_ble_eq_true rfl, Nat.le_of_ble_eq_true rfl⟩) ⟨Pw.fb, va_recv hK hP (ci := 7) (q0 := 3) rfl rfl, fun U hU hW => Pw.to (hP.sub [3, 4, 5] rfl) (hD.sub [3, 4, 5] (by decide) rfl) (hK.sub [3, 4] rfl) hE hS hFc hU hW⟩ rfl rfl hl.1 rfl (lv_room (Nat.le_of_ble_eq_true rfl)) dX7_innerLine_192 ⟨Nat.le_of_ble_eq_true rfl, Nat.le_of_ble_eq_true rfl⟩) hS (fun q _ h => hFc q h) hFc (fun u t H locs ht hvm hw hB hz1 hk1 hS => ?_)
                            obtain ⟨x_6294, x_6295, x_6296, x_6297, x_6298, f_6299, b_x_6295, b_x_6298, e_x_6294_0, e_x_6294_1, e_x_6294_2, e_x_6294_3, hB⟩ := hB
                            obtain ⟨hP, hD, hK⟩ := Bw.go (ws' := [(arI rM_fresher kM_fresher 8 f_6178), (arI rM_fresh kM_fresh 287 f_6289), (arI rM_read kM_read 90 f_6285), (oc7 oM iM_thrown rM_tape iM_taped iM_size x_6294 x_6295 x_6296 x_6297 x_6298 x_6277 x_6278 iM_trouble rM_letters x_6279 iM_hasCourt rM_r rM_fresh rM_told rM_read rM_st rM_undone rM_kept iM_undos iM_images rM_fresher x_6176 iM_scale iM_night rM_heardRow rM_cutRow iM_breaths iM_cutMany iM_allBreaths rM_trial rM_words iM_fewestBreaths iM_orderMany iM_orderSum iM_leastOrder rM_often iM_setMany iM_someOf iM_allOf iM_allWeight iM_enoughWeight iM_worthSum iM_firstRest iM_leastDrawn), (arI rM_tape kM_tape 900 fM_tape), (arI rM_letters kM_letters 8 f_6299)]) (tys' := [(kM_fresher, .int), (kM_fresh, .int), (kM_read, .int), (kM_tape, .int), (kM_letters, .int)]) hB rfl ht hvm hP hD hK [3, 4, 5] [0, 1, 2] rfl (by decide) (by decide) [0, 1, 2] hk1 hFc rfl rfl rfl
                            clear hz1 hk1 hvm ht hB
                            have hG := hG.trans (un6_eq e_x_6294_3)
                            clear e_x_6272_1
                            clear e_x_6272_3
                            refine lv_goto (tgt := 24) hx hb dX7_innerLine_195 (by decide) ?_
                            exact ih_n_6193 x_6290 1 x_6294 x_6295 x_6296 x_6297 x_6298 x_6277 x_6278 x_6279 f_6299 f_6289 f_6285 _ _ _ b_x_6295 b_x_6298 b_x_6279 (by first | omega | decide | assumption) (by first | omega | decide | assumption) (by assumption) (by rw [show x_6290.toNatClampNeg = z_6180.toNatClampNeg + 1 from (by have q1 := ti_cl (x := x_6290) vx_6290 (by omega); have q2 := ti_cl (x := z_6180) rfl (by omega); omega)]; exact in9) (by first | omega | decide | assumption) (fun h9 => by have q0 := kc_0; have q1 := kc_1; omega) e_x_6294_1 (by first | omega | decide | assumption) (fun h9 => by have q0 := kc_0; have q1 := kc_1; have q9 := e_x_6294_2 (by omega); omega) (by omega) hG (hP.sub [3, 4, 5, 1, 2, 0] rfl) (hD.sub [3, 4, 5, 1, 2, 0] (by decide) rfl) hS (lv_sub hl [0, 1, 4, 5, 6] rfl)
                        · skip
                          have hG := hG.trans (if_neg c_6282)
                          have gc_6282 := ti_ne c_6282 rfl kc_0
                          replace gc_6282 : (-1) * x_6279.toInt + 1 ≤ 0 := by omega
                          exact W.vret hx hb hr (fun t ht hW => ⟨⟨0, rfl, trivial, ⟨x_6272, x_6273, x_6274, x_6275, x_6276, x_6277, x_6278, x_6279, x_6176, f_6280, f_6191, f_6192, f_6178, b_x_6273, b_x_6276, b_x_6279, (by first | assumption | (have q0 := kc_0; have q1 := kc_1; omega)), e_x_6272_1, (by first | assumption | (have q0 := kc_0; have q1 := kc_1; omega)), (fun h9 => by have q0 := kc_0; have q1 := kc_1; omega), (by first | assumption | (have q0 := kc_0; have q1 := kc_1; omega)), hG, Bw.to (hP.sub [3, 4, 5, 1, 2, 0] rfl) (hD.sub [3, 4, 5, 1, 2, 0] (by decide) rfl) (hK.sub [3, 4, 1, 2, 0] rfl) ht hW⟩⟩, hS.F ht⟩) hS.2.2 dX7_innerLine_139
                    · skip
                      have hG := hG.trans (if_pos c_6245)
                      have gc_6245 := ti_eq c_6245 rfl kc_4
                      refine lv_aload_n hx hb dX7_innerLine_101 rfl (lv_at hl 5 rfl) ?_
                      refine lv_iconst (v := 5) hx hb dX7_innerLine_102 (by decide) ?_
                      refine lv_aload_n hx hb dX7_innerLine_103 rfl (lv_at hl 5 rfl) ?_
                      refine va_get (D := (dC, dI)) (ci := 7) (v := .int z_6182) (C := RX7) (T := TX7) (N := 48) hx hb hts inX7 hown hK hP 2 rfl rfl 4 (by decide) (hts _ wd_384) (fun _ h9 => h9) rfl dX7_innerLine_104 ?_
                      have hFc := va_free (wc := [(oc7 oM iM_thrown rM_tape iM_taped iM_size z_6182 z_6183 z_6184 z_6185 z_6186 z_6218 z_6219 iM_trouble rM_letters z_6217 iM_hasCourt rM_r rM_fresh rM_told rM_read rM_st rM_undone rM_kept iM_undos iM_images rM_fresher x_6176 iM_scale iM_night rM_heardRow rM_cutRow iM_breaths iM_cutMany iM_allBreaths rM_trial rM_words iM_fewestBreaths iM_orderMany iM_orderSum iM_leastOrder rM_often iM_setMany iM_someOf iM_allOf iM_allWeight iM_enoughWeight iM_worthSum iM_firstRest iM_leastDrawn)]) hD hS hA [2] rfl
                      refine va_callv (va_runV (As := [.int 5, .int z_6182]) (rest := []) ⟨hx, hb, hml, hown, hts⟩ (tX7_wrong l dC dI _ oM iM_thrown rM_tape iM_taped iM_size z_6182 z_6183 z_6184 z_6185 z_6186 z_6218 z_6219 iM_trouble rM_letters z_6217 iM_hasCourt rM_r rM_fresh rM_told rM_read rM_st rM_undone rM_kept iM_undos iM_images rM_fresher x_6176 iM_scale iM_night rM_heardRow rM_cutRow iM_breaths iM_cutMany iM_allBreaths rM_trial rM_words iM_fewestBreaths iM_orderMany iM_orderSum iM_leastOrder rM_often iM_setMany iM_someOf iM_allOf iM_allWeight iM_enoughWeight iM_worthSum iM_firstRest iM_leastDrawn 5 z_6182 (by first | omega | decide) (by first | omega | decide) (by first | exact b_z_6183 | omega | decide) (by first | exact b_z_6186 | omega | decide) (by first | exact b_z_6217 | omega | decide) (by first | omega | decide) (by first | omega | decide) (by first | omega | decide) (by first | omega | decide) (by first | omega | decide) (by first | omega | decide) (by first | assumption | exact (fun h9 => by have q0 := kc_0; have q1 := kc_1; omega))) (cwV 2 hts (wd_V wd_430 wd_431 wd_432 wd_5 (wd_c wd_433)) rfl rfl rfl (by decide +kernel) ⟨Nat.le_of_ble_eq_true rfl, Nat.le_of_ble_eq_true rfl⟩) ⟨Pw.fb, va_recv hK hP (ci := 7) (q0 := 2) rfl rfl, fun U hU hW => Pw.to (hP.sub [2] rfl) (hD.sub [2] (by decide) rfl) (hK.sub [] rfl) hE hS hFc hU hW⟩ rfl rfl hl.1 rfl (lv_room (Nat.le_of_ble_eq_true rfl)) dX7_innerLine_107 ⟨Nat.le_of_ble_eq_true rfl, Nat.le_of_ble_eq_true rfl⟩) hS (fun q _ h => hFc q h) hFc (fun u t H locs ht hvm hw hB hz1 hk1 hS => ?_)
                      obtain ⟨x_6300, x_6301, x_6302, b_x_6302, e_x_6300_0, e_x_6300_1, hB⟩ := hB
                      obtain ⟨hP, hD, hK⟩ := Bw.go (ws' := [(arI rM_tape kM_tape 900 fM_tape), (arI rM_fresher kM_fresher 8 f_6178), (arI rM_letters kM_letters 8 f_6190), (arI rM_fresh kM_fresh 287 f_6191), (arI rM_read kM_read 90 f_6192), (oc7 oM iM_thrown rM_tape iM_taped iM_size z_6182 z_6183 z_6184 z_6185 z_6186 x_6300 x_6301 iM_trouble rM_letters x_6302 iM_hasCourt rM_r rM_fresh rM_told rM_read rM_st rM_undone rM_kept iM_undos iM_images rM_fresher x_6176 iM_scale iM_night rM_heardRow rM_cutRow iM_breaths iM_cutMany iM_allBreaths rM_trial rM_words iM_fewestBreaths iM_orderMany iM_orderSum iM_leastOrder rM_often iM_setMany iM_someOf iM_allOf iM_allWeight iM_enoughWeight iM_worthSum iM_firstRest iM_leastDrawn)]) (tys' := [(kM_tape, .int), (kM_fresher, .int), (kM_letters, .int), (kM_fresh, .int), (kM_read, .int)]) hB rfl ht hvm hP hD hK [2] [0, 1, 3, 4, 5] rfl (by decide) (by decide) [0, 1, 2, 3, 4] hk1 hFc rfl rfl rfl
                      clear hz1 hk1 hvm ht hB
                      have hG := hG.trans (un3_eq e_x_6300_1)
                      refine lv_aload_n hx hb dX7_innerLine_110 rfl (lv_at hl 5 rfl) ?_
                      have hFc := va_free (wc := [(oc7 oM iM_thrown rM_tape iM_taped iM_size z_6182 z_6183 z_6184 z_6185 z_6186 x_6300 x_6301 iM_trouble rM_letters x_6302 iM_hasCourt rM_r rM_fresh rM_told rM_read rM_st rM_undone rM_kept iM_undos iM_images rM_fresher x_6176 iM_scale iM_night rM_heardRow rM_cutRow iM_breaths iM_cutMany iM_allBreaths rM_trial rM_words iM_fewestBreaths iM_orderMany iM_orderSum iM_leastOrder rM_often iM_setMany iM_someOf iM_allOf iM_allWeight iM_enoughWeight iM_worthSum iM_firstRest iM_leastDrawn), (arI rM_tape kM_tape 900 fM_tape), (arI rM_letters kM_letters 8 f_6190)]) hD hS hA [5, 0, 2] rfl
                      refine va_callv (va_runV (As := []) (rest := []) ⟨hx, hb, hml, hown, hts⟩ (tX7_pass l dC dI _ oM iM_thrown rM_tape fM_tape kM_tape iM_taped iM_size z_6182 z_6183 z_6184 z_6185 z_6186 x_6300 x_6301 iM_trouble rM_letters f_6190 kM_letters x_6302 iM_hasCourt rM_r rM_fresh rM_told rM_read rM_st rM_undone rM_kept iM_undos iM_images rM_fresher x_6176 iM_scale iM_night rM_heardRow rM_cutRow iM_breaths iM_cutMany iM_allBreaths rM_trial rM_words iM_fewestBreaths iM_orderMany iM_orderSum iM_leastOrder rM_often iM_setMany iM_someOf iM_allOf iM_allWeight iM_enoughWeight iM_worthSum iM_firstRest iM_leastDrawn (by first | omega | decide) (by first | omega | decide) (by first | exact b_z_6183 | omega | decide) (by first | exact b_z_6186 | omega | decide) (by first | exact b_x_6302 | omega | decide) (by first | omega | decide) (by first | omega | decide) (by first | omega | decide) (by first | omega | decide) (by first | omega | decide) (by first | omega | decide) (by first | assumption | exact (fun h9 => by have q0 := kc_0; have q1 := kc_1; omega))) (cwV 0 hts (wd_V wd_454 wd_455 wd_456 wd_5 (wd_c wd_457)) rfl rfl rfl (by decide +kernel) ⟨Nat.le_of_ble_eq_true rfl, Nat.le_of_ble_eq_true rfl⟩) ⟨Pw.fb, va_recv hK hP (ci := 7) (q0 := 5) rfl rfl, fun U hU hW => Pw.to (hP.sub [5, 0, 2] rfl) (hD.sub [5, 0, 2] (by decide) rfl) (hK.sub [0, 2] rfl) hE hS hFc hU hW⟩ rfl rfl hl.1 rfl (lv_room (Nat.le_of_ble_eq_true rfl)) dX7_innerLine_111 ⟨Nat.le_of_ble_eq_true rfl, Nat.le_of_ble_eq_true rfl⟩) hS (fun q _ h => hFc q h) hFc (fun u t H locs ht hvm hw hB hz1 hk1 hS => ?_)
                      obtain ⟨x_6303, x_6304, x_6305, x_6306, x_6307, f_6308, b_x_6304, b_x_6307, e_x_6303_0, e_x_6303_1, e_x_6303_2, e_x_6303_3, hB⟩ := hB
                      obtain ⟨hP, hD, hK⟩ := Bw.go (ws' := [(arI rM_fresher kM_fresher 8 f_6178), (arI rM_fresh kM_fresh 287 f_6191), (arI rM_read kM_read 90 f_6192), (oc7 oM iM_thrown rM_tape iM_taped iM_size x_6303 x_6304 x_6305 x_6306 x_6307 x_6300 x_6301 iM_trouble rM_letters x_6302 iM_hasCourt rM_r rM_fresh rM_told rM_read rM_st rM_undone rM_kept iM_undos iM_images rM_fresher x_6176 iM_scale iM_night rM_heardRow rM_cutRow iM_breaths iM_cutMany iM_allBreaths rM_trial rM_words iM_fewestBreaths iM_orderMany iM_orderSum iM_leastOrder rM_often iM_setMany iM_someOf iM_allOf iM_allWeight iM_enoughWeight iM_worthSum iM_firstRest iM_leastDrawn), (arI rM_tape kM_tape 900 fM_tape), (arI rM_letters kM_letters 8 f_6308)]) (tys' := [(kM_fresher, .int), (kM_fresh, .int), (kM_read, .int), (kM_tape, .int), (kM_letters, .int)]) hB rfl ht hvm hP hD hK [5, 0, 2] [1, 3, 4] rfl (by decide) (by decide) [1, 3, 4] hk1 hFc rfl rfl rfl
                      clear hz1 hk1 hvm ht hB
                      have hG := hG.trans (un6_eq e_x_6303_3)
                      clear hi6_n_6193
                      clear hi8_n_6193
                      refine lv_iload_n hx hb dX7_innerLine_114 rfl (lv_at hl 6 rfl) ?_
                      refine lv_iconst (v := 3) hx hb dX7_innerLine_115 (by decide) ?_
                      refine lv_icmp_ne (tgt := 129) hx hb dX7_innerLine_116 (by decide) (fun c_6309 => ?_) (fun c_6309 => ?_)
                      · skip
                        have hG := hG.trans (if_neg c_6309)
                        have gc_6309 := ti_ne c_6309 rfl kc_3
                        replace gc_6309 : p0.toInt + (-2) ≤ 0 := by omega
                        clear hic
                        refine lv_iconst (v := 0) hx hb dX7_innerLine_129 (by decide) ?_
                        refine lv_istore (lv' := [(6, .int 0), (5, .int x_6215), (4, .int z_6181), (3, .int z_6180), (2, .int x_6179), (0, .ref oM), (1, .int p0)]) hx hb dX7_innerLine_130 hl (by decide) rfl (fun ls hl => ?_)
                        refine lv_aload_n hx hb dX7_innerLine_132 rfl (lv_at hl 5 rfl) ?_
                        refine va_get (D := (dC, dI)) (ci := 7) (v := .int x_6302) (C := RX7) (T := TX7) (N := 48) hx hb hts inX7 hown hK hP 3 rfl rfl 13 (by decide) (hts _ wd_380) (fun _ h9 => h9) rfl dX7_innerLine_133 ?_
                        refine lv_if_eq (tgt := 140) hx hb dX7_innerLine_136 (by decide) (fun c_6310 => ?_) (fun c_6310 => ?_)
                        · skip
                          have hG := hG.trans (if_pos c_6310)
                          have gc_6310 := ti_eq c_6310 rfl kc_0
                          exfalso; clear hG; omega
                        · skip
                          have hG := hG.trans (if_neg c_6310)
                          have gc_6310 := ti_ne c_6310 rfl kc_0
                          replace gc_6310 : (-1) * x_6302.toInt + 1 ≤ 0 := by omega
                          exact W.vret hx hb hr (fun t ht hW => ⟨⟨0, rfl, trivial, ⟨x_6303, x_6304, x_6305, x_6306, x_6307, x_6300, x_6301, x_6302, x_6176, f_6308, f_6191, f_6192, f_6178, b_x_6304, b_x_6307, b_x_6302, (by first | assumption | (have q0 := kc_0; have q1 := kc_1; omega)), e_x_6303_1, (by first | assumption | (have q0 := kc_0; have q1 := kc_1; omega)), (fun h9 => by have q0 := kc_0; have q1 := kc_1; omega), (by first | assumption | (have q0 := kc_0; have q1 := kc_1; omega)), hG, Bw.to (hP.sub [3, 4, 5, 1, 2, 0] rfl) (hD.sub [3, 4, 5, 1, 2, 0] (by decide) rfl) (hK.sub [3, 4, 1, 2, 0] rfl) ht hW⟩⟩, hS.F ht⟩) hS.2.2 dX7_innerLine_139
                      · skip
                        have hG := hG.trans (if_pos c_6309)
                        have gc_6309 := ti_eq c_6309 rfl kc_3
                        have h_6311 := hic (by omega)
                        clear hic
                        refine lv_aload_n hx hb dX7_innerLine_119 rfl (lv_at hl 5 rfl) ?_
                        refine lv_iconst (v := 1) hx hb dX7_innerLine_120 (by decide) ?_
                        refine lv_bipush (v := 9) hx hb dX7_innerLine_121 (by decide) ?_
                        have hFc := va_free (wc := [(oc7 oM iM_thrown rM_tape iM_taped iM_size x_6303 x_6304 x_6305 x_6306 x_6307 x_6300 x_6301 iM_trouble rM_letters x_6302 iM_hasCourt rM_r rM_fresh rM_told rM_read rM_st rM_undone rM_kept iM_undos iM_images rM_fresher x_6176 iM_scale iM_night rM_heardRow rM_cutRow iM_breaths iM_cutMany iM_allBreaths rM_trial rM_words iM_fewestBreaths iM_orderMany iM_orderSum iM_leastOrder rM_often iM_setMany iM_someOf iM_allOf iM_allWeight iM_enoughWeight iM_worthSum iM_firstRest iM_leastDrawn), (arI rM_tape kM_tape 900 fM_tape), (arI rM_letters kM_letters 8 f_6308)]) hD hS hA [3, 4, 5] rfl
                        refine va_calli (va_runV (As := [.int 1, .int 9]) (rest := []) ⟨hx, hb, hml, hown, hts⟩ (tX7_number l dC dI _ oM iM_thrown rM_tape fM_tape kM_tape iM_taped iM_size x_6303 x_6304 x_6305 x_6306 x_6307 x_6300 x_6301 iM_trouble rM_letters f_6308 kM_letters x_6302 iM_hasCourt rM_r rM_fresh rM_told rM_read rM_st rM_undone rM_kept iM_undos iM_images rM_fresher x_6176 iM_scale iM_night rM_heardRow rM_cutRow iM_breaths iM_cutMany iM_allBreaths rM_trial rM_words iM_fewestBreaths iM_orderMany iM_orderSum iM_leastOrder rM_often iM_setMany iM_someOf iM_allOf iM_allWeight iM_enoughWeight iM_worthSum iM_firstRest iM_leastDrawn 1 9 (by first | omega | decide) (by first | omega | decide) (by first | exact b_x_6304 | omega | decide) (by first | exact b_x_6307 | omega | decide) (by first | exact b_x_6302 | omega | decide) (by first | omega | decide) (by first | omega | decide) (by first | omega | decide) (by first | omega | decide) (by first | omega | decide) (by first | omega | decide) (by first | assumption | exact (fun h9 => by have q0 := kc_0; have q1 := kc_1; omega)) (by first | omega | decide | assumption | (have q0 := kc_0; have q1 := kc_1; have q2 := kc_9; omega) | (intro h; exact absurd h (by decide)))) (cwV 2 hts (wd_V wd_446 wd_447 wd_448 wd_5 (wd_c wd_449)) rfl rfl rfl (by decide +kernel) ⟨Nat.le_of_ble_eq_true rfl, Nat.le_of_ble_eq_true rfl⟩) ⟨Pw.fb, va_recv hK hP (ci := 7) (q0 := 3) rfl rfl, fun U hU hW => Pw.to (hP.sub [3, 4, 5] rfl) (hD.sub [3, 4, 5] (by decide) rfl) (hK.sub [3, 4] rfl) hE hS hFc hU hW⟩ rfl rfl hl.1 rfl (lv_room (Nat.le_of_ble_eq_true rfl)) dX7_innerLine_123 ⟨Nat.le_of_ble_eq_true rfl, Nat.le_of_ble_eq_true rfl⟩) hS (fun q _ h => hFc q h) hFc (fun r u t H locs ht hvm hw hB hz1 hk1 hS => ?_)
                        have hru9 := hw.2
                        have hw := hw.1
                        obtain ⟨x_6312, x_6313, x_6314, x_6315, x_6316, x_6317, x_6318, x_6319, f_6320, b_x_6313, b_x_6316, b_x_6319, e_x_6312_0, e_x_6312_1, e_x_6312_2, e_x_6312_3, e_x_6312_4, hB⟩ := hB
                        obtain ⟨hP, hD, hK⟩ := Bw.go (ws' := [(arI rM_fresher kM_fresher 8 f_6178), (arI rM_fresh kM_fresh 287 f_6191), (arI rM_read kM_read 90 f_6192), (oc7 oM iM_thrown rM_tape iM_taped iM_size x_6312 x_6313 x_6314 x_6315 x_6316 x_6317 x_6318 iM_trouble rM_letters x_6319 iM_hasCourt rM_r rM_fresh rM_told rM_read rM_st rM_undone rM_kept iM_undos iM_images rM_fresher x_6176 iM_scale iM_night rM_heardRow rM_cutRow iM_breaths iM_cutMany iM_allBreaths rM_trial rM_words iM_fewestBreaths iM_orderMany iM_orderSum iM_leastOrder rM_often iM_setMany iM_someOf iM_allOf iM_allWeight iM_enoughWeight iM_worthSum iM_firstRest iM_leastDrawn), (arI rM_tape kM_tape 900 fM_tape), (arI rM_letters kM_letters 8 f_6320)]) (tys' := [(kM_fresher, .int), (kM_fresh, .int), (kM_read, .int), (kM_tape, .int), (kM_letters, .int)]) hB rfl ht hvm hP hD hK [3, 4, 5] [0, 1, 2] rfl (by decide) (by decide) [0, 1, 2] hk1 hFc rfl rfl rfl
                        clear hz1 hk1 hvm ht hB
                        rw [← hru9] at e_x_6312_4
                        obtain ⟨x_6321, rfl⟩ : ∃ z, z = r := ⟨_, rfl⟩
                        have hG := hG.trans (un10_eq e_x_6312_4)
                        have lx_6321 := hw.2
                        have kl_1 := kc_1
                        have kl_9 := kc_9
                        clear e_x_6303_1
                        clear e_x_6303_2
                        refine lv_goto (tgt := 130) hx hb dX7_innerLine_126 (by decide) ?_
                        refine lv_istore (lv' := [(6, .int x_6321), (5, .int x_6215), (4, .int z_6181), (3, .int z_6180), (2, .int x_6179), (0, .ref oM), (1, .int p0)]) hx hb dX7_innerLine_130 hl (by decide) rfl (fun ls hl => ?_)
                        refine lv_aload_n hx hb dX7_innerLine_132 rfl (lv_at hl 5 rfl) ?_
                        refine va_get (D := (dC, dI)) (ci := 7) (v := .int x_6319) (C := RX7) (T := TX7) (N := 48) hx hb hts inX7 hown hK hP 3 rfl rfl 13 (by decide) (hts _ wd_380) (fun _ h9 => h9) rfl dX7_innerLine_133 ?_
                        refine lv_if_eq (tgt := 140) hx hb dX7_innerLine_136 (by decide) (fun c_6322 => ?_) (fun c_6322 => ?_)
                        · skip
                          have hG := hG.trans (if_pos c_6322)
                          have gc_6322 := ti_eq c_6322 rfl kc_0
                          exfalso; clear hG; omega
                        · skip
                          have hG := hG.trans (if_neg c_6322)
                          have gc_6322 := ti_ne c_6322 rfl kc_0
                          replace gc_6322 : (-1) * x_6319.toInt + 1 ≤ 0 := by omega
                          exact W.vret hx hb hr (fun t ht hW => ⟨⟨0, rfl, trivial, ⟨x_6312, x_6313, x_6314, x_6315, x_6316, x_6317, x_6318, x_6319, x_6176, f_6320, f_6191, f_6192, f_6178, b_x_6313, b_x_6316, b_x_6319, (by first | assumption | (have q0 := kc_0; have q1 := kc_1; omega)), e_x_6312_1, (by first | assumption | (have q0 := kc_0; have q1 := kc_1; omega)), (fun h9 => by have q0 := kc_0; have q1 := kc_1; omega), (by first | assumption | (have q0 := kc_0; have q1 := kc_1; omega)), hG, Bw.to (hP.sub [3, 4, 5, 1, 2, 0] rfl) (hD.sub [3, 4, 5, 1, 2, 0] (by decide) rfl) (hK.sub [3, 4, 1, 2, 0] rfl) ht hW⟩⟩, hS.F ht⟩) hS.2.2 dX7_innerLine_139
                · skip
                  have hG := hG.trans (if_neg c_6221)
                  have gc_6221 := ti_nle c_6221 rfl rfl
                  refine lv_aload_n hx hb dX7_innerLine_51 rfl (lv_at hl 5 rfl) ?_
                  refine va_get (D := (dC, dI)) (ci := 7) (v := .int z_6217) (C := RX7) (T := TX7) (N := 48) hx hb hts inX7 hown hK hP 2 rfl rfl 13 (by decide) (hts _ wd_380) (fun _ h9 => h9) rfl dX7_innerLine_52 ?_
                  refine lv_if_ne (tgt := 83) hx hb dX7_innerLine_55 (by decide) (fun c_6323 => ?_) (fun c_6323 => ?_)
                  · skip
                    have hG := hG.trans (if_neg c_6323)
                    have gc_6323 := ti_ne c_6323 rfl kc_0
                    replace gc_6323 : (-1) * z_6217.toInt + 1 ≤ 0 := by omega
                    obtain ⟨x_6324, ex_6324⟩ : ∃ z : Int32, z = z_6216 + Int32.ofInt 1 := ⟨_, rfl⟩
                    have hG := hG.trans (lt_eq ex_6324)
                    have vx_6324 : x_6324.toInt = z_6216.toInt + 1 := by have q := ti_add (y := 1) ex_6324 rfl kc_1 (by omega) (by omega); omega
                    refine lv_iinc (v := x_6324) (lv' := [(6, .int x_6324), (5, .int x_6215), (4, .int z_6181), (3, .int z_6180), (2, .int x_6179), (0, .ref oM), (1, .int p0)]) hx hb dX7_innerLine_83 hl (k := 0) rfl ex_6324.symm (by decide) rfl (fun ls hl => ?_)
                    refine lv_goto (tgt := 45) hx hb dX7_innerLine_86 (by decide) ?_
                    exact ih_n_6220 x_6324 z_6217 z_6218 z_6219 _ _ _ b_z_6217 (by first | omega | decide | assumption) (by first | omega | decide | assumption) (show NeI _ _ _ _ _ from fun h9 i9 hi9 => by by_cases e9 : i9 = z_6216.toNatClampNeg; (rw [e9]; omega); exact hi2_n_6220 (by omega) i9 (by have q1 := ti_cl (x := x_6324) vx_6324 (by omega); have q2 := ti_cl (x := z_6216) rfl (by omega); omega)) (by omega) hG (hP.sub [0, 1, 2, 3, 4, 5] rfl) (hD.sub [0, 1, 2, 3, 4, 5] (by decide) rfl) hS (lv_sub hl [0, 1, 2, 3, 4, 5, 6] rfl)
                  · skip
                    have hG := hG.trans (if_pos c_6323)
                    have gc_6323 := ti_eq c_6323 rfl kc_0
                    have h_6325 := e_x_6212_1 (by omega)
                    clear e_x_6212_1
                    have h_6326 := lx_6215.2.1 (by omega)
                    refine lv_aload_n hx hb dX7_innerLine_58 rfl (lv_at hl 5 rfl) ?_
                    refine va_get (D := (dC, dI)) (ci := 7) (v := .ref rM_read) (C := RX7) (T := TX7) (N := 48) hx hb hts inX7 hown hK hP 2 rfl rfl 18 (by decide) (hts _ wd_158) (fun _ h9 => h9) rfl dX7_innerLine_59 ?_
                    refine lv_iconst (v := 4) hx hb dX7_innerLine_62 (by decide) ?_
                    refine lv_iload_n hx hb dX7_innerLine_63 rfl (lv_at hl 4 rfl) ?_
                    refine lv_imul hx hb dX7_innerLine_64 ?_
                    refine lv_topi (fun x_6327 ex_6327 => ?_)
                    have hG := hG.trans (lt_eq ex_6327)
                    have vx_6327 : x_6327.toInt = 4 * x_6179.toInt := by have q := ti_mul ex_6327 kc_4 rfl (by omega) (by omega); omega
                    refine lv_iload hx hb dX7_innerLine_65 (lv_at hl 0 rfl) ?_
                    refine lv_iadd hx hb dX7_innerLine_67 ?_
                    refine lv_topi (fun x_6328 ex_6328 => ?_)
                    have hG := hG.trans (lt_eq ex_6328)
                    have vx_6328 : x_6328.toInt = 4 * x_6179.toInt + z_6216.toInt := by have q := ti_add ex_6328 vx_6327 rfl (by omega) (by omega); omega
                    refine va_iald hx hb hK hP 5 4 rfl rfl (ti_in vx_6328 (by omega) (by omega)) dX7_innerLine_68 ?_
                    refine lv_topi (fun x_6329 ex_6329 => ?_)
                    have hG := hG.trans (lt_eq ex_6329)
                    have kx_6329 : (f_6192 x_6328.toNatClampNeg).toInt = x_6329.toInt := by rw [ex_6329]
                    have cx_6329 : (f_6192 (4 * x_6179.toNatClampNeg + z_6216.toNatClampNeg)).toInt = x_6329.toInt := by rw [show 4 * x_6179.toNatClampNeg + z_6216.toNatClampNeg = x_6328.toNatClampNeg from by have q9 := ti_cl (x := x_6328) vx_6328 (by omega); have q_x_6179 := ti_cl (x := x_6179) rfl (by omega); have q_z_6216 := ti_cl (x := z_6216) rfl (by omega); omega]; exact kx_6329
                    refine lv_iload hx hb dX7_innerLine_69 (lv_at hl 1 rfl) ?_
                    refine lv_icmp_ne (tgt := 83) hx hb dX7_innerLine_71 (by decide) (fun c_6330 => ?_) (fun c_6330 => ?_)
                    · skip
                      have hG := hG.trans (if_neg c_6330)
                      have gc_6330 := ti_ne c_6330 rfl rfl
                      obtain ⟨x_6331, ex_6331⟩ : ∃ z : Int32, z = z_6216 + Int32.ofInt 1 := ⟨_, rfl⟩
                      have hG := hG.trans (lt_eq ex_6331)
                      have vx_6331 : x_6331.toInt = z_6216.toInt + 1 := by have q := ti_add (y := 1) ex_6331 rfl kc_1 (by omega) (by omega); omega
                      refine lv_iinc (v := x_6331) (lv' := [(6, .int x_6331), (5, .int x_6215), (4, .int z_6181), (3, .int z_6180), (2, .int x_6179), (0, .ref oM), (1, .int p0)]) hx hb dX7_innerLine_83 hl (k := 0) rfl ex_6331.symm (by decide) rfl (fun ls hl => ?_)
                      refine lv_goto (tgt := 45) hx hb dX7_innerLine_86 (by decide) ?_
                      exact ih_n_6220 x_6331 z_6217 z_6218 z_6219 _ _ _ b_z_6217 (by first | omega | decide | assumption) (by first | omega | decide | assumption) (show NeI _ _ _ _ _ from fun h9 i9 hi9 => by by_cases e9 : i9 = z_6216.toNatClampNeg; (rw [e9]; omega); exact hi2_n_6220 (by omega) i9 (by have q1 := ti_cl (x := x_6331) vx_6331 (by omega); have q2 := ti_cl (x := z_6216) rfl (by omega); omega)) (by omega) hG (hP.sub [0, 1, 2, 3, 4, 5] rfl) (hD.sub [0, 1, 2, 3, 4, 5] (by decide) rfl) hS (lv_sub hl [0, 1, 2, 3, 4, 5, 6] rfl)
                    · skip
                      have hG := hG.trans (if_pos c_6330)
                      have gc_6330 := ti_eq c_6330 rfl rfl
                      refine lv_aload_n hx hb dX7_innerLine_74 rfl (lv_at hl 5 rfl) ?_
                      refine lv_iconst (v := 3) hx hb dX7_innerLine_75 (by decide) ?_
                      refine lv_aload_n hx hb dX7_innerLine_76 rfl (lv_at hl 5 rfl) ?_
                      refine va_get (D := (dC, dI)) (ci := 7) (v := .int z_6182) (C := RX7) (T := TX7) (N := 48) hx hb hts inX7 hown hK hP 2 rfl rfl 4 (by decide) (hts _ wd_384) (fun _ h9 => h9) rfl dX7_innerLine_77 ?_
                      have hFc := va_free (wc := [(oc7 oM iM_thrown rM_tape iM_taped iM_size z_6182 z_6183 z_6184 z_6185 z_6186 z_6218 z_6219 iM_trouble rM_letters z_6217 iM_hasCourt rM_r rM_fresh rM_told rM_read rM_st rM_undone rM_kept iM_undos iM_images rM_fresher x_6176 iM_scale iM_night rM_heardRow rM_cutRow iM_breaths iM_cutMany iM_allBreaths rM_trial rM_words iM_fewestBreaths iM_orderMany iM_orderSum iM_leastOrder rM_often iM_setMany iM_someOf iM_allOf iM_allWeight iM_enoughWeight iM_worthSum iM_firstRest iM_leastDrawn)]) hD hS hA [2] rfl
                      refine va_callv (va_runV (As := [.int 3, .int z_6182]) (rest := []) ⟨hx, hb, hml, hown, hts⟩ (tX7_wrong l dC dI _ oM iM_thrown rM_tape iM_taped iM_size z_6182 z_6183 z_6184 z_6185 z_6186 z_6218 z_6219 iM_trouble rM_letters z_6217 iM_hasCourt rM_r rM_fresh rM_told rM_read rM_st rM_undone rM_kept iM_undos iM_images rM_fresher x_6176 iM_scale iM_night rM_heardRow rM_cutRow iM_breaths iM_cutMany iM_allBreaths rM_trial rM_words iM_fewestBreaths iM_orderMany iM_orderSum iM_leastOrder rM_often iM_setMany iM_someOf iM_allOf iM_allWeight iM_enoughWeight iM_worthSum iM_firstRest iM_leastDrawn 3 z_6182 (by first | omega | decide) (by first | omega | decide) (by first | exact b_z_6183 | omega | decide) (by first | exact b_z_6186 | omega | decide) (by first | exact b_z_6217 | omega | decide) (by first | omega | decide) (by first | omega | decide) (by first | omega | decide) (by first | omega | decide) (by first | omega | decide) (by first | omega | decide) (by first | assumption | exact (fun h9 => by have q0 := kc_0; have q1 := kc_1; omega))) (cwV 2 hts (wd_V wd_430 wd_431 wd_432 wd_5 (wd_c wd_433)) rfl rfl rfl (by decide +kernel) ⟨Nat.le_of_ble_eq_true rfl, Nat.le_of_ble_eq_true rfl⟩) ⟨Pw.fb, va_recv hK hP (ci := 7) (q0 := 2) rfl rfl, fun U hU hW => Pw.to (hP.sub [2] rfl) (hD.sub [2] (by decide) rfl) (hK.sub [] rfl) hE hS hFc hU hW⟩ rfl rfl hl.1 rfl (lv_room (Nat.le_of_ble_eq_true rfl)) dX7_innerLine_80 ⟨Nat.le_of_ble_eq_true rfl, Nat.le_of_ble_eq_true rfl⟩) hS (fun q _ h => hFc q h) hFc (fun u t H locs ht hvm hw hB hz1 hk1 hS => ?_)
                      obtain ⟨x_6332, x_6333, x_6334, b_x_6334, e_x_6332_0, e_x_6332_1, hB⟩ := hB
                      obtain ⟨hP, hD, hK⟩ := Bw.go (ws' := [(arI rM_tape kM_tape 900 fM_tape), (arI rM_fresher kM_fresher 8 f_6178), (arI rM_letters kM_letters 8 f_6190), (arI rM_fresh kM_fresh 287 f_6191), (arI rM_read kM_read 90 f_6192), (oc7 oM iM_thrown rM_tape iM_taped iM_size z_6182 z_6183 z_6184 z_6185 z_6186 x_6332 x_6333 iM_trouble rM_letters x_6334 iM_hasCourt rM_r rM_fresh rM_told rM_read rM_st rM_undone rM_kept iM_undos iM_images rM_fresher x_6176 iM_scale iM_night rM_heardRow rM_cutRow iM_breaths iM_cutMany iM_allBreaths rM_trial rM_words iM_fewestBreaths iM_orderMany iM_orderSum iM_leastOrder rM_often iM_setMany iM_someOf iM_allOf iM_allWeight iM_enoughWeight iM_worthSum iM_firstRest iM_leastDrawn)]) (tys' := [(kM_tape, .int), (kM_fresher, .int), (kM_letters, .int), (kM_fresh, .int), (kM_read, .int)]) hB rfl ht hvm hP hD hK [2] [0, 1, 3, 4, 5] rfl (by decide) (by decide) [0, 1, 2, 3, 4] hk1 hFc rfl rfl rfl
                      clear hz1 hk1 hvm ht hB
                      have hG := hG.trans (un3_eq e_x_6332_1)
                      obtain ⟨x_6335, ex_6335⟩ : ∃ z : Int32, z = z_6216 + Int32.ofInt 1 := ⟨_, rfl⟩
                      have hG := hG.trans (lt_eq ex_6335)
                      have vx_6335 : x_6335.toInt = z_6216.toInt + 1 := by have q := ti_add (y := 1) ex_6335 rfl kc_1 (by omega) (by omega); omega
                      refine lv_iinc (v := x_6335) (lv' := [(6, .int x_6335), (5, .int x_6215), (4, .int z_6181), (3, .int z_6180), (2, .int x_6179), (0, .ref oM), (1, .int p0)]) hx hb dX7_innerLine_83 hl (k := 0) rfl ex_6335.symm (by decide) rfl (fun ls hl => ?_)
                      refine lv_goto (tgt := 45) hx hb dX7_innerLine_86 (by decide) ?_
                      exact ih_n_6220 x_6335 x_6334 x_6332 x_6333 _ _ _ b_x_6334 (by first | omega | decide | assumption) (by first | omega | decide | assumption) (show NeI _ _ _ _ _ from fun h9 i9 hi9 => by by_cases e9 : i9 = z_6216.toNatClampNeg; (rw [e9]; omega); exact hi2_n_6220 (by omega) i9 (by have q1 := ti_cl (x := x_6335) vx_6335 (by omega); have q2 := ti_cl (x := z_6216) rfl (by omega); omega)) (by omega) hG (hP.sub [0, 1, 5, 2, 3, 4] rfl) (hD.sub [0, 1, 5, 2, 3, 4] (by decide) rfl) hS (lv_sub hl [0, 1, 2, 3, 4, 5, 6] rfl)
            exact key_n_6220 (((z_6180.toInt - (0 : Int32).toInt).toNat) + 1) 0 x_6214 x_6212 x_6213 _ _ _ b_x_6214 (by first | omega | decide | assumption | (have q0 := kc_0; have q1 := kc_1; omega)) (by first | omega | decide | assumption | (have q0 := kc_0; have q1 := kc_1; omega)) (show NeI _ _ _ _ _ from fun _ i9 hi9 => absurd hi9 (Nat.not_lt_zero i9)) (by omega) hG hP hD hS hl
    exact key_n_6193 (((4 - (0 : Int32).toInt).toNat) + 1) 0 1 x_6168 x_6169 x_6170 x_6171 x_6172 x_6173 x_6174 x_6175 f_6177 fM_fresh fM_read _ _ _ b_x_6169 b_x_6172 b_x_6175 (by first | omega | decide | assumption | (have q0 := kc_0; have q1 := kc_1; omega)) (by first | omega | decide | assumption | (have q0 := kc_0; have q1 := kc_1; omega)) (by assumption) in_zero ⟨rfl, rfl, rfl⟩ (fun h9 => by have q0 := kc_0; have q1 := kc_1; omega) e_x_6168_1 (by first | omega | decide | assumption | (have q0 := kc_0; have q1 := kc_1; omega)) (fun h9 => by have q0 := kc_0; have q1 := kc_1; have q9 := e_x_6168_3 (by omega); omega) (by omega) hG hP hD hS hl
  · skip
    have hG := hG.trans (if_neg c_6166)
    have gc_6166 := ti_ne c_6166 rfl kc_0
    replace gc_6166 : (-1) * iM_failed.toInt + 1 ≤ 0 := by omega
    clear hil
    clear hic
    exact W.vret hx hb hr (fun t ht hW => ⟨⟨0, rfl, trivial, ⟨iM_at, iM_end, iM_token, iM_whole, iM_nameSize, iM_fault, iM_place, iM_failed, iM_fresherSize, fM_letters, fM_fresh, fM_read, fM_fresher, (by omega), (by omega), (by omega), (by first | assumption | (have q0 := kc_0; have q1 := kc_1; omega)), r_T, (by first | assumption | (have q0 := kc_0; have q1 := kc_1; omega)), (fun h9 => by have q0 := kc_0; have q1 := kc_1; omega), (by first | assumption | (have q0 := kc_0; have q1 := kc_1; omega)), hG, Bw.to (hP.sub [0, 1, 2, 3, 4, 5] rfl) (hD.sub [0, 1, 2, 3, 4, 5] (by decide) rfl) (hK.sub [0, 1, 2, 3, 4] rfl) ht hW⟩⟩, hS.F ht⟩) hS.2.2 dX7_innerLine_7
