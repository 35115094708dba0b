set_option maxHeartbeats 4000000 in
set_option maxRecDepth 100000 in
theorem tX7_innerLine (l : Launch) (dC : Nat → ClassId) (dI : Nat → Nat → Nat) (sz : Nat) (oM : Nat) (iM_thrown : Int32) (rM_tape : Nat) (fM_tape : Nat → Int32) (kM_tape : ClassId) (iM_taped : Int32) (iM_size : Int32) (iM_at : Int32) (iM_end : Int32) (iM_token : Int32) (iM_whole : Int32) (iM_nameSize : Int32) (iM_fault : Int32) (iM_place : Int32) (iM_trouble : Int32) (rM_letters : Nat) (fM_letters : Nat → Int32) (kM_letters : ClassId) (iM_failed : Int32) (iM_hasCourt : Int32) (rM_r : Nat) (rM_fresh : Nat) (fM_fresh : Nat → Int32) (kM_fresh : ClassId) (rM_told : Nat) (rM_read : Nat) (fM_read : Nat → Int32) (kM_read : ClassId) (rM_st : Nat) (rM_undone : Nat) (rM_kept : Nat) (iM_undos : Int32) (iM_images : Int32) (rM_fresher : Nat) (fM_fresher : Nat → Int32) (kM_fresher : ClassId) (iM_fresherSize : Int32) (iM_scale : Int32) (iM_night : Int32) (rM_heardRow : Nat) (rM_cutRow : Nat) (iM_breaths : Int32) (iM_cutMany : Int32) (iM_allBreaths : Int32) (rM_trial : Nat) (rM_words : Nat) (iM_fewestBreaths : Int32) (iM_orderMany : Int32) (iM_orderSum : Int32) (iM_leastOrder : Int32) (rM_often : Nat) (iM_setMany : Int32) (iM_someOf : Int32) (iM_allOf : Int32) (iM_allWeight : Int64) (iM_enoughWeight : Int64) (iM_worthSum : Int64) (iM_firstRest : Int32) (iM_leastDrawn : Int32) (p0 : Int32) (b_iM_taped : 0 ≤ iM_taped.toInt ∧ iM_taped.toInt ≤ 900) (b_iM_size : 0 ≤ iM_size.toInt ∧ iM_size.toInt ≤ 900) (b_iM_end : 0 ≤ iM_end.toInt ∧ iM_end.toInt ≤ 900) (b_iM_nameSize : 0 ≤ iM_nameSize.toInt ∧ iM_nameSize.toInt ≤ 900) (b_iM_failed : 0 ≤ iM_failed.toInt ∧ iM_failed.toInt ≤ 1) (b_iM_hasCourt : 0 ≤ iM_hasCourt.toInt ∧ iM_hasCourt.toInt ≤ 1) (b_iM_undos : 0 ≤ iM_undos.toInt ∧ iM_undos.toInt ≤ 16) (b_iM_images : 0 ≤ iM_images.toInt ∧ iM_images.toInt ≤ 3) (b_iM_scale : 1 ≤ iM_scale.toInt ∧ iM_scale.toInt ≤ 1296) (b_iM_breaths : 0 ≤ iM_breaths.toInt ∧ iM_breaths.toInt ≤ 399) (b_iM_cutMany : 0 ≤ iM_cutMany.toInt ∧ iM_cutMany.toInt ≤ 399) (r_T : ImpP (iM_token.toInt = 2) (iM_nameSize.toInt ≤ 8)) (r_P : POk fM_fresh fM_read) (hp0 : 1 ≤ p0.toInt ∧ p0.toInt ≤ 3) (hil : ImpP (iM_failed.toInt ≤ 0) ((fM_fresh 7).toInt ≤ 7)) (hic : ImpP (iM_failed.toInt ≤ 0 ∧ p0.toInt = 3) ((fM_fresh 8).toInt ≤ 1)) : Met l yX7_innerLine (Cond.code yX7_innerLine cX7_innerLine 7 none :: wG) ({ frames := 7, cells := 0, slots := 0, locals := 175 }) (va_Pc [.ref oM, .int p0] (Pw dC dI sz [(oc7 oM iM_thrown rM_tape iM_taped iM_size iM_at iM_end iM_token iM_whole iM_nameSize iM_fault iM_place iM_trouble rM_letters iM_failed iM_hasCourt rM_r rM_fresh rM_told rM_read rM_st rM_undone rM_kept iM_undos iM_images rM_fresher iM_fresherSize iM_scale iM_night rM_heardRow rM_cutRow iM_breaths iM_cutMany iM_allBreaths rM_trial rM_words iM_fewestBreaths iM_orderMany iM_orderSum iM_leastOrder rM_often iM_setMany iM_someOf iM_allOf iM_allWeight iM_enoughWeight iM_worthSum iM_firstRest iM_leastDrawn), (arI rM_tape kM_tape 900 fM_tape), (arI rM_letters kM_letters 8 fM_letters), (arI rM_fresh kM_fresh 287 fM_fresh), (arI rM_read kM_read 90 fM_read), (arI rM_fresher kM_fresher 8 fM_fresher)] [(kM_tape, .int), (kM_letters, .int), (kM_fresh, .int), (kM_read, .int), (kM_fresher, .int)])) (va_Qv (fun (_ : Nat) => True) (fun (_ : Nat) (t : State) => ∃ (niM_at : Int32) (niM_end : Int32) (niM_token : Int32) (niM_whole : Int32) (niM_nameSize : Int32) (niM_fault : Int32) (niM_place : Int32) (niM_failed : Int32) (niM_fresherSize : Int32) (nfM_letters : Nat → Int32) (nfM_fresh : Nat → Int32) (nfM_read : Nat → Int32) (nfM_fresher : Nat → Int32), (0 ≤ niM_end.toInt ∧ niM_end.toInt ≤ 900) ∧ (0 ≤ niM_nameSize.toInt ∧ niM_nameSize.toInt ≤ 900) ∧ (0 ≤ niM_failed.toInt ∧ niM_failed.toInt ≤ 1) ∧ (iM_end.toInt ≤ niM_end.toInt) ∧ (ImpP (niM_token.toInt = 2) (niM_nameSize.toInt ≤ 8)) ∧ (iM_failed.toInt ≤ niM_failed.toInt) ∧ (ImpP (niM_failed.toInt ≤ 0 ∧ niM_token.toInt = 59 ) (iM_end.toInt + 1 ≤ niM_end.toInt)) ∧ (POk nfM_fresh nfM_read) ∧ (PX7_innerLine fM_tape iM_size iM_at iM_end iM_token iM_whole iM_nameSize iM_fault iM_place fM_letters iM_failed fM_fresh fM_read fM_fresher iM_fresherSize p0 = (niM_at, niM_end, niM_token, niM_whole, niM_nameSize, niM_fault, niM_place, niM_failed, niM_fresherSize, nfM_letters, nfM_fresh, nfM_read, nfM_fresher)) ∧ Bw dC dI (va_A [(oc7 oM iM_thrown rM_tape iM_taped iM_size iM_at iM_end iM_token iM_whole iM_nameSize iM_fault iM_place iM_trouble rM_letters iM_failed iM_hasCourt rM_r rM_fresh rM_told rM_read rM_st rM_undone rM_kept iM_undos iM_images rM_fresher iM_fresherSize iM_scale iM_night rM_heardRow rM_cutRow iM_breaths iM_cutMany iM_allBreaths rM_trial rM_words iM_fewestBreaths iM_orderMany iM_orderSum iM_leastOrder rM_often iM_setMany iM_someOf iM_allOf iM_allWeight iM_enoughWeight iM_worthSum iM_firstRest iM_leastDrawn), (arI rM_tape kM_tape 900 fM_tape), (arI rM_letters kM_letters 8 fM_letters), (arI rM_fresh kM_fresh 287 fM_fresh), (arI rM_read kM_read 90 fM_read), (arI rM_fresher kM_fresher 8 fM_fresher)] sz) [(oc7 oM iM_thrown rM_tape iM_taped iM_size niM_at niM_end niM_token niM_whole niM_nameSize niM_fault niM_place iM_trouble rM_letters niM_failed iM_hasCourt rM_r rM_fresh rM_told rM_read rM_st rM_undone rM_kept iM_undos iM_images rM_fresher niM_fresherSize iM_scale iM_night rM_heardRow rM_cutRow iM_breaths iM_cutMany iM_allBreaths rM_trial rM_words iM_fewestBreaths iM_orderMany iM_orderSum iM_leastOrder rM_often iM_setMany iM_someOf iM_allOf iM_allWeight iM_enoughWeight iM_worthSum iM_firstRest iM_leastDrawn), (arI rM_tape kM_tape 900 fM_tape), (arI rM_letters kM_letters 8 nfM_letters), (arI rM_fresh kM_fresh 287 nfM_fresh), (arI rM_read kM_read 90 nfM_read), (arI rM_fresher kM_fresher 8 nfM_fresher)] [(kM_tape, .int), (kM_letters, .int), (kM_fresh, .int), (kM_read, .int), (kM_fresher, .int)] t) (va_A [(oc7 oM iM_thrown rM_tape iM_taped iM_size iM_at iM_end iM_token iM_whole iM_nameSize iM_fault iM_place iM_trouble rM_letters iM_failed iM_hasCourt rM_r rM_fresh rM_told rM_read rM_st rM_undone rM_kept iM_undos iM_images rM_fresher iM_fresherSize iM_scale iM_night rM_heardRow rM_cutRow iM_breaths iM_cutMany iM_allBreaths rM_trial rM_words iM_fewestBreaths iM_orderMany iM_orderSum iM_leastOrder rM_often iM_setMany iM_someOf iM_allOf iM_allWeight iM_enoughWeight iM_worthSum iM_firstRest iM_leastDrawn), (arI rM_tape kM_tape 900 fM_tape), (arI rM_letters kM_letters 8 fM_letters), (arI rM_fresh kM_fresh 287 fM_fresh), (arI rM_read kM_read 90 fM_read), (arI rM_fresher kM_fresher 8 fM_fresher)] sz)) 0 0 (va_A [(oc7 oM iM_thrown rM_tape iM_taped iM_size iM_at iM_end iM_token iM_whole iM_nameSize iM_fault iM_place iM_trouble rM_letters iM_failed iM_hasCourt rM_r rM_fresh rM_told rM_read rM_st rM_undone rM_kept iM_undos iM_images rM_fresher iM_fresherSize iM_scale iM_night rM_heardRow rM_cutRow iM_breaths iM_cutMany iM_allBreaths rM_trial rM_words iM_fewestBreaths iM_orderMany iM_orderSum iM_leastOrder rM_often iM_setMany iM_someOf iM_allOf iM_allWeight iM_enoughWeight iM_worthSum iM_firstRest iM_leastDrawn), (arI rM_tape kM_tape 900 fM_tape), (arI rM_letters kM_letters 8 fM_letters), (arI rM_fresh kM_fresh 287 fM_fresh), (arI rM_read kM_read 90 fM_read), (arI rM_fresher kM_fresher 8 fM_fresher)] sz) := by
  refine Met.ofW (cc := cX7_innerLine) (maxL := 7) (ret := none) (by decide) rfl ?_
  intro p e s m args below meth c s₁ B hml hv
  obtain ⟨rfl, hsz, hP, hK, hD0, hE⟩ := hv
  have hx := B.exec
  have hb := B.bytes
  have hr := B.returns
  have hts : ∀ w ∈ wG, w.before ([.ref oM, .int p0] : List Value).toArray s = true := fun w h => atoms_spec (ws := Cond.code yX7_innerLine cX7_innerLine 7 none :: wG) B.pre w (List.mem_cons_of_mem _ h)
  have hown : s.vm.findClass RX7 = some m.cls := findClass_of_methodNamed B.named
  have hlocks := B.notSynchronized
  subst hsz
  have hD := hD0.self (sz := s.heap.size)
  generalize hAe : va_A [(oc7 oM iM_thrown rM_tape iM_taped iM_size iM_at iM_end iM_token iM_whole iM_nameSize iM_fault iM_place iM_trouble rM_letters iM_failed iM_hasCourt rM_r rM_fresh rM_told rM_read rM_st rM_undone rM_kept iM_undos iM_images rM_fresher iM_fresherSize iM_scale iM_night rM_heardRow rM_cutRow iM_breaths iM_cutMany iM_allBreaths rM_trial rM_words iM_fewestBreaths iM_orderMany iM_orderSum iM_leastOrder rM_often iM_setMany iM_someOf iM_allOf iM_allWeight iM_enoughWeight iM_worthSum iM_firstRest iM_leastDrawn), (arI rM_tape kM_tape 900 fM_tape), (arI rM_letters kM_letters 8 fM_letters), (arI rM_fresh kM_fresh 287 fM_fresh), (arI rM_read kM_read 90 fM_read), (arI rM_fresher kM_fresher 8 fM_fresher)] s.heap.size = A at hD hE ⊢
  have hA : ∀ q : Nat, s.heap.size ≤ q → A q := fun q h => by rw [← hAe]; exact Or.inr h
  have hS : va_S A s.heap s.heap [] := va_S.rf
  have hl := lv_entry ([.ref oM, .int p0]) (n := 7) (Nat.le_of_ble_eq_true rfl)
  rw [lg_entry_eq]
  generalize (lg_sl ([.ref oM, .int p0]) ++ List.replicate (7 - (lg_sl ([.ref oM, .int p0])).length) Slot.unset).toArray = ls at hl ⊢
  have hl : lv_has ls 7 [(0, .ref oM), (1, .int p0)] := hl
  have hG := PX7_innerLine_eq fM_tape iM_size iM_at iM_end iM_token iM_whole iM_nameSize iM_fault iM_place fM_letters iM_failed fM_fresh fM_read fM_fresher iM_fresherSize p0
  have pl_fM_fresh := r_P.lins
  refine lv_aload_n hx hb dX7_innerLine_0 rfl (lv_at hl 0 rfl) ?_
  refine va_get (D := (dC, dI)) (ci := 7) (v := .int iM_failed) (C := RX7) (T := TX7) (N := 48) hx hb hts inX7 hown hK hP 0 rfl rfl 13 (by decide) (hts _ wd_380) (fun _ h9 => h9) rfl dX7_innerLine_1 ?_
  refine lv_if_eq (tgt := 8) hx hb dX7_innerLine_4 (by decide) (fun c_6168 => ?_) (fun c_6168 => ?_)
  · skip
    have hG := hG.trans (if_pos c_6168)
    have gc_6168 := ti_eq c_6168 rfl kc_0
    have h_6169 := hil (by omega)
    clear hil
    refine lv_aload_n hx hb dX7_innerLine_8 rfl (lv_at hl 0 rfl) ?_
    have hFc := va_free (wc := [(oc7 oM iM_thrown rM_tape iM_taped iM_size iM_at iM_end iM_token iM_whole iM_nameSize iM_fault iM_place iM_trouble rM_letters iM_failed iM_hasCourt rM_r rM_fresh rM_told rM_read rM_st rM_undone rM_kept iM_undos iM_images rM_fresher iM_fresherSize iM_scale iM_night rM_heardRow rM_cutRow iM_breaths iM_cutMany iM_allBreaths rM_trial rM_words iM_fewestBreaths iM_orderMany iM_orderSum iM_leastOrder rM_often iM_setMany iM_someOf iM_allOf iM_allWeight iM_enoughWeight iM_worthSum iM_firstRest iM_leastDrawn), (arI rM_tape kM_tape 900 fM_tape), (arI rM_letters kM_letters 8 fM_letters), (arI rM_fresh kM_fresh 287 fM_fresh), (arI rM_read kM_read 90 fM_read), (arI rM_fresher kM_fresher 8 fM_fresher)]) hD hS hA [0, 1, 2, 3, 4, 5] rfl
    refine va_callv (va_runV (As := []) (rest := []) ⟨hx, hb, hml, hown, hts⟩ (tX7_newName l dC dI _ oM iM_thrown rM_tape fM_tape kM_tape iM_taped iM_size iM_at iM_end iM_token iM_whole iM_nameSize iM_fault iM_place iM_trouble rM_letters fM_letters kM_letters iM_failed iM_hasCourt rM_r rM_fresh fM_fresh kM_fresh rM_told rM_read fM_read kM_read rM_st rM_undone rM_kept iM_undos iM_images rM_fresher fM_fresher kM_fresher iM_fresherSize iM_scale iM_night rM_heardRow rM_cutRow iM_breaths iM_cutMany iM_allBreaths rM_trial rM_words iM_fewestBreaths iM_orderMany iM_orderSum iM_leastOrder rM_often iM_setMany iM_someOf iM_allOf iM_allWeight iM_enoughWeight iM_worthSum iM_firstRest iM_leastDrawn (by first | omega | decide) (by first | omega | decide) (by first | omega | decide) (by first | omega | decide) (by first | omega | decide) (by first | omega | decide) (by first | omega | decide) (by first | omega | decide) (by first | omega | decide) (by first | omega | decide) (by first | omega | decide) (by first | assumption | exact (fun h9 => by have q0 := kc_0; have q1 := kc_1; omega)) (by assumption)) (cwV 0 hts (wd_V wd_462 wd_463 wd_464 wd_5 (wd_c wd_465)) rfl rfl rfl (by decide +kernel) ⟨Nat.le_of_ble_eq_true rfl, Nat.le_of_ble_eq_true rfl⟩) ⟨Pw.fb, va_recv hK hP (ci := 7) (q0 := 0) rfl rfl, fun U hU hW => Pw.to (hP.sub [0, 1, 2, 3, 4, 5] rfl) (hD.sub [0, 1, 2, 3, 4, 5] (by decide) rfl) (hK.sub [0, 1, 2, 3, 4] rfl) hE hS hFc hU hW⟩ rfl rfl hl.1 rfl (lv_room (Nat.le_of_ble_eq_true rfl)) dX7_innerLine_9 ⟨Nat.le_of_ble_eq_true rfl, Nat.le_of_ble_eq_true rfl⟩) hS (fun q _ h => hFc q h) hFc (fun u t H locs ht hvm hw hB hz1 hk1 hS => ?_)
    obtain ⟨x_6170, x_6171, x_6172, x_6173, x_6174, x_6175, x_6176, x_6177, x_6178, f_6179, f_6180, b_x_6171, b_x_6174, b_x_6177, e_x_6170_0, e_x_6170_1, e_x_6170_2, e_x_6170_3, e_x_6170_4, hB⟩ := hB
    obtain ⟨hP, hD, hK⟩ := Bw.go (ws' := [(oc7 oM iM_thrown rM_tape iM_taped iM_size x_6170 x_6171 x_6172 x_6173 x_6174 x_6175 x_6176 iM_trouble rM_letters x_6177 iM_hasCourt rM_r rM_fresh rM_told rM_read rM_st rM_undone rM_kept iM_undos iM_images rM_fresher x_6178 iM_scale iM_night rM_heardRow rM_cutRow iM_breaths iM_cutMany iM_allBreaths rM_trial rM_words iM_fewestBreaths iM_orderMany iM_orderSum iM_leastOrder rM_often iM_setMany iM_someOf iM_allOf iM_allWeight iM_enoughWeight iM_worthSum iM_firstRest iM_leastDrawn), (arI rM_tape kM_tape 900 fM_tape), (arI rM_letters kM_letters 8 f_6179), (arI rM_fresh kM_fresh 287 fM_fresh), (arI rM_read kM_read 90 fM_read), (arI rM_fresher kM_fresher 8 f_6180)]) (tys' := [(kM_tape, .int), (kM_letters, .int), (kM_fresh, .int), (kM_read, .int), (kM_fresher, .int)]) hB rfl ht hvm hP hD hK [0, 1, 2, 3, 4, 5] [] rfl (by decide) (by decide) [] hk1 hFc rfl rfl rfl
    clear hz1 hk1 hvm ht hB
    have hG := hG.trans (un11_eq e_x_6170_4)
    clear r_T
    refine lv_aload_n hx hb dX7_innerLine_12 rfl (lv_at hl 0 rfl) ?_
    refine va_get (D := (dC, dI)) (ci := 7) (v := .ref rM_fresh) (C := RX7) (T := TX7) (N := 48) hx hb hts inX7 hown hK hP 0 rfl rfl 16 (by decide) (hts _ wd_156) (fun _ h9 => h9) rfl dX7_innerLine_13 ?_
    refine lv_iconst (v := 1) hx hb dX7_innerLine_16 (by decide) ?_
    refine va_iald hx hb hK hP 3 2 rfl rfl (by unfold vp_in; decide) dX7_innerLine_17 ?_
    refine lv_topi (fun x_6181 ex_6181 => ?_)
    have hG := hG.trans (lt_eq ex_6181)
    have cx_6181 : (fM_fresh 1).toInt = x_6181.toInt := congrArg Int32.toInt (show fM_fresh 1 = x_6181 from ex_6181.symm)
    refine lv_istore_n (lv' := [(2, .int x_6181), (0, .ref oM), (1, .int p0)]) hx hb dX7_innerLine_18 rfl hl (by decide) rfl (fun ls hl => ?_)
    refine lv_iconst (v := 0) hx hb dX7_innerLine_19 (by decide) ?_
    refine lv_istore_n (lv' := [(3, .int 0), (2, .int x_6181), (0, .ref oM), (1, .int p0)]) hx hb dX7_innerLine_20 rfl hl (by decide) rfl (fun ls hl => ?_)
    refine lv_iconst (v := 1) hx hb dX7_innerLine_21 (by decide) ?_
    refine lv_istore (lv' := [(4, .int 1), (3, .int 0), (2, .int x_6181), (0, .ref oM), (1, .int p0)]) hx hb dX7_innerLine_22 hl (by decide) rfl (fun ls hl => ?_)
    have hl := lv_sub hl (l' := [(4, .int 1), (3, .int 0), (2, .int x_6181), (0, .ref oM), (1, .int p0)]) [0, 1, 2, 3, 4] rfl
    have key_n_6195 : ∀ (n_6195 : Nat) (z_6182 : Int32) (z_6183 : Int32) (z_6184 : Int32) (z_6185 : Int32) (z_6186 : Int32) (z_6187 : Int32) (z_6188 : Int32) (z_6189 : Int32) (z_6190 : Int32) (z_6191 : Int32) (f_6192 : Nat → Int32) (f_6193 : Nat → Int32) (f_6194 : Nat → Int32) (H : Heap) (locs : List Loc) (ls : Array Slot), (0 ≤ z_6185.toInt ∧ z_6185.toInt ≤ 900) → (0 ≤ z_6188.toInt ∧ z_6188.toInt ≤ 900) → (0 ≤ z_6191.toInt ∧ z_6191.toInt ≤ 1) → (0 ≤ z_6182.toInt ∧ z_6182.toInt ≤ 4) → (0 ≤ z_6183.toInt ∧ z_6183.toInt ≤ 1) → (POk f_6193 f_6194) → (InOk f_6193 f_6194 (f_6193 1).toNatClampNeg z_6182.toNatClampNeg p0.toInt) → ((f_6193 1).toInt = (fM_fresh 1).toInt ∧ (f_6193 7).toInt = (fM_fresh 7).toInt ∧ (f_6193 8).toInt = (fM_fresh 8).toInt) → (ImpP (z_6183.toInt ≤ 0) (1 ≤ z_6182.toInt)) → (ImpP (z_6186.toInt = 2) (z_6188.toInt ≤ 8)) → (iM_end.toInt ≤ z_6185.toInt) → (ImpP (z_6191.toInt ≤ 0 ∧ z_6186.toInt = 59 ) (iM_end.toInt + 1 ≤ z_6185.toInt)) → (4 - z_6182.toInt).toNat < n_6195 → (PX7_innerLine fM_tape iM_size iM_at iM_end iM_token iM_whole iM_nameSize iM_fault iM_place fM_letters iM_failed fM_fresh fM_read fM_fresher iM_fresherSize p0 = HX7_innerLine_0 fM_tape iM_size p0 x_6178 f_6180 x_6181 n_6195 z_6182 z_6183 z_6184 z_6185 z_6186 z_6187 z_6188 z_6189 z_6190 z_6191 f_6192 f_6193 f_6194) → va_P (dC, dI) vwCl [(oc7 oM iM_thrown rM_tape iM_taped iM_size z_6184 z_6185 z_6186 z_6187 z_6188 z_6189 z_6190 iM_trouble rM_letters z_6191 iM_hasCourt rM_r rM_fresh rM_told rM_read rM_st rM_undone rM_kept iM_undos iM_images rM_fresher x_6178 iM_scale iM_night rM_heardRow rM_cutRow iM_breaths iM_cutMany iM_allBreaths rM_trial rM_words iM_fewestBreaths iM_orderMany iM_orderSum iM_leastOrder rM_often iM_setMany iM_someOf iM_allOf iM_allWeight iM_enoughWeight iM_worthSum iM_firstRest iM_leastDrawn), (arI rM_tape kM_tape 900 fM_tape), (arI rM_letters kM_letters 8 f_6192), (arI rM_fresh kM_fresh 287 f_6193), (arI rM_read kM_read 90 f_6194), (arI rM_fresher kM_fresher 8 f_6180)] H → va_D A [(oc7 oM iM_thrown rM_tape iM_taped iM_size z_6184 z_6185 z_6186 z_6187 z_6188 z_6189 z_6190 iM_trouble rM_letters z_6191 iM_hasCourt rM_r rM_fresh rM_told rM_read rM_st rM_undone rM_kept iM_undos iM_images rM_fresher x_6178 iM_scale iM_night rM_heardRow rM_cutRow iM_breaths iM_cutMany iM_allBreaths rM_trial rM_words iM_fewestBreaths iM_orderMany iM_orderSum iM_leastOrder rM_often iM_setMany iM_someOf iM_allOf iM_allWeight iM_enoughWeight iM_worthSum iM_firstRest iM_leastDrawn), (arI rM_tape kM_tape 900 fM_tape), (arI rM_letters kM_letters 8 f_6192), (arI rM_fresh kM_fresh 287 f_6193), (arI rM_read kM_read 90 f_6194), (arI rM_fresher kM_fresher 8 f_6180)] → va_S A s.heap H locs → lv_has ls 7 [(4, .int z_6183), (3, .int z_6182), (2, .int x_6181), (0, .ref oM), (1, .int p0)] → W p l e (headSpec (Cond.code yX7_innerLine cX7_innerLine 7 none :: wG) ({ frames := 7, cells := 0, slots := 0, locals := 175 })).room s m ([.ref oM, .int p0] : List Value).toArray below meth c H locs 0 0 (MQ below (va_Qv (fun (_ : Nat) => True) (fun (_ : Nat) (t : State) => ∃ (niM_at : Int32) (niM_end : Int32) (niM_token : Int32) (niM_whole : Int32) (niM_nameSize : Int32) (niM_fault : Int32) (niM_place : Int32) (niM_failed : Int32) (niM_fresherSize : Int32) (nfM_letters : Nat → Int32) (nfM_fresh : Nat → Int32) (nfM_read : Nat → Int32) (nfM_fresher : Nat → Int32), (0 ≤ niM_end.toInt ∧ niM_end.toInt ≤ 900) ∧ (0 ≤ niM_nameSize.toInt ∧ niM_nameSize.toInt ≤ 900) ∧ (0 ≤ niM_failed.toInt ∧ niM_failed.toInt ≤ 1) ∧ (iM_end.toInt ≤ niM_end.toInt) ∧ (ImpP (niM_token.toInt = 2) (niM_nameSize.toInt ≤ 8)) ∧ (iM_failed.toInt ≤ niM_failed.toInt) ∧ (ImpP (niM_failed.toInt ≤ 0 ∧ niM_token.toInt = 59 ) (iM_end.toInt + 1 ≤ niM_end.toInt)) ∧ (POk nfM_fresh nfM_read) ∧ (PX7_innerLine fM_tape iM_size iM_at iM_end iM_token iM_whole iM_nameSize iM_fault iM_place fM_letters iM_failed fM_fresh fM_read fM_fresher iM_fresherSize p0 = (niM_at, niM_end, niM_token, niM_whole, niM_nameSize, niM_fault, niM_place, niM_failed, niM_fresherSize, nfM_letters, nfM_fresh, nfM_read, nfM_fresher)) ∧ Bw dC dI A [(oc7 oM iM_thrown rM_tape iM_taped iM_size niM_at niM_end niM_token niM_whole niM_nameSize niM_fault niM_place iM_trouble rM_letters niM_failed iM_hasCourt rM_r rM_fresh rM_told rM_read rM_st rM_undone rM_kept iM_undos iM_images rM_fresher niM_fresherSize iM_scale iM_night rM_heardRow rM_cutRow iM_breaths iM_cutMany iM_allBreaths rM_trial rM_words iM_fewestBreaths iM_orderMany iM_orderSum iM_leastOrder rM_often iM_setMany iM_someOf iM_allOf iM_allWeight iM_enoughWeight iM_worthSum iM_firstRest iM_leastDrawn), (arI rM_tape kM_tape 900 fM_tape), (arI rM_letters kM_letters 8 nfM_letters), (arI rM_fresh kM_fresh 287 nfM_fresh), (arI rM_read kM_read 90 nfM_read), (arI rM_fresher kM_fresher 8 nfM_fresher)] [(kM_tape, .int), (kM_letters, .int), (kM_fresh, .int), (kM_read, .int), (kM_fresher, .int)] t) A) ([.ref oM, .int p0] : List Value).toArray s 0 0 A) (F0 m 24 ls []) := by
      intro n_6195
      induction n_6195 with
      | zero => intro z_6182 z_6183 z_6184 z_6185 z_6186 z_6187 z_6188 z_6189 z_6190 z_6191 f_6192 f_6193 f_6194 H locs ls b_z_6185 b_z_6188 b_z_6191 hi0_n_6195 hi1_n_6195 hi2_n_6195 hi3_n_6195 hi4_n_6195 hi5_n_6195 hi6_n_6195 hi7_n_6195 hi8_n_6195 hm; exact absurd hm (by omega)
      | succ n_6195 ih_n_6195 =>
        intro z_6182 z_6183 z_6184 z_6185 z_6186 z_6187 z_6188 z_6189 z_6190 z_6191 f_6192 f_6193 f_6194 H locs ls b_z_6185 b_z_6188 b_z_6191 hi0_n_6195 hi1_n_6195 hi2_n_6195 hi3_n_6195 hi4_n_6195 hi5_n_6195 hi6_n_6195 hi7_n_6195 hi8_n_6195 hm hG hP hD hS hl
        have hG := hG.trans (HX7_innerLine_0_eq _ _ _ _ _ _ _ _ _ _ _ _ _ _ _ _ _ _ _ _)
        have pl_f_6193 := hi2_n_6195.lins
        refine lv_iload hx hb dX7_innerLine_24 (lv_at hl 0 rfl) ?_
        refine lv_if_eq (tgt := 198) hx hb dX7_innerLine_26 (by decide) (fun c_6196 => ?_) (fun c_6196 => ?_)
        · skip
          have hG := hG.trans (if_pos c_6196)
          have gc_6196 := ti_eq c_6196 rfl kc_0
          have h_6197 := hi5_n_6195 (by omega)
          clear hi5_n_6195
          refine lv_aload_n hx hb dX7_innerLine_198 rfl (lv_at hl 3 rfl) ?_
          refine va_get (D := (dC, dI)) (ci := 7) (v := .int z_6191) (C := RX7) (T := TX7) (N := 48) hx hb hts inX7 hown hK hP 0 rfl rfl 13 (by decide) (hts _ wd_380) (fun _ h9 => h9) rfl dX7_innerLine_199 ?_
          refine lv_if_eq (tgt := 206) hx hb dX7_innerLine_202 (by decide) (fun c_6198 => ?_) (fun c_6198 => ?_)
          · skip
            have hG := hG.trans (if_pos c_6198)
            have gc_6198 := ti_eq c_6198 rfl kc_0
            refine lv_aload_n hx hb dX7_innerLine_206 rfl (lv_at hl 3 rfl) ?_
            refine va_get (D := (dC, dI)) (ci := 7) (v := .ref rM_fresh) (C := RX7) (T := TX7) (N := 48) hx hb hts inX7 hown hK hP 0 rfl rfl 16 (by decide) (hts _ wd_156) (fun _ h9 => h9) rfl dX7_innerLine_207 ?_
            refine lv_bipush (v := 27) hx hb dX7_innerLine_210 (by decide) ?_
            refine lv_iload_n hx hb dX7_innerLine_212 rfl (lv_at hl 2 rfl) ?_
            refine lv_iadd hx hb dX7_innerLine_213 ?_
            refine lv_topi (fun x_6199 ex_6199 => ?_)
            have hG := hG.trans (lt_eq ex_6199)
            have vx_6199 : x_6199.toInt = x_6181.toInt + 27 := by have q := ti_add ex_6199 kc_27 rfl (by omega) (by omega); omega
            refine lv_iload_n hx hb dX7_innerLine_214 rfl (lv_at hl 1 rfl) ?_
            refine va_iast hx hb hK hP hD hS 3 2 rfl rfl (ti_in vx_6199 (by omega) (by omega)) dX7_innerLine_215 (fun H locs hP hD hS => ?_)
            obtain ⟨f_6200, ef_6200⟩ : ∃ g : Nat → Int32, g = upd f_6193 x_6199.toNatClampNeg z_6182 := ⟨_, rfl⟩
            rw [← ef_6200] at hP hD
            have hG := hG.trans (lt_eq ef_6200)
            obtain ⟨hP, hD⟩ := wl2 (ws' := [(oc7 oM iM_thrown rM_tape iM_taped iM_size z_6184 z_6185 z_6186 z_6187 z_6188 z_6189 z_6190 iM_trouble rM_letters z_6191 iM_hasCourt rM_r rM_fresh rM_told rM_read rM_st rM_undone rM_kept iM_undos iM_images rM_fresher x_6178 iM_scale iM_night rM_heardRow rM_cutRow iM_breaths iM_cutMany iM_allBreaths rM_trial rM_words iM_fewestBreaths iM_orderMany iM_orderSum iM_leastOrder rM_often iM_setMany iM_someOf iM_allOf iM_allWeight iM_enoughWeight iM_worthSum iM_firstRest iM_leastDrawn), (arI rM_tape kM_tape 900 fM_tape), (arI rM_letters kM_letters 8 f_6192), (arI rM_fresh kM_fresh 287 f_6200), (arI rM_read kM_read 90 f_6194), (arI rM_fresher kM_fresher 8 f_6180)]) hP hD rfl
            have o1_f_6200 : (f_6200 1).toInt = (f_6193 1).toInt := put_at ef_6200 (by have q9 := ti_cl (x := x_6199) vx_6199 (by omega); omega)
            have o7_f_6200 : (f_6200 7).toInt = (f_6193 7).toInt := put_at ef_6200 (by have q9 := ti_cl (x := x_6199) vx_6199 (by omega); omega)
            have o8_f_6200 : (f_6200 8).toInt = (f_6193 8).toInt := put_at ef_6200 (by have q9 := ti_cl (x := x_6199) vx_6199 (by omega); omega)
            refine lv_aload_n hx hb dX7_innerLine_216 rfl (lv_at hl 3 rfl) ?_
            refine lv_iload_n hx hb dX7_innerLine_217 rfl (lv_at hl 4 rfl) ?_
            have hFc := va_free (wc := [(oc7 oM iM_thrown rM_tape iM_taped iM_size z_6184 z_6185 z_6186 z_6187 z_6188 z_6189 z_6190 iM_trouble rM_letters z_6191 iM_hasCourt rM_r rM_fresh rM_told rM_read rM_st rM_undone rM_kept iM_undos iM_images rM_fresher x_6178 iM_scale iM_night rM_heardRow rM_cutRow iM_breaths iM_cutMany iM_allBreaths rM_trial rM_words iM_fewestBreaths iM_orderMany iM_orderSum iM_leastOrder rM_often iM_setMany iM_someOf iM_allOf iM_allWeight iM_enoughWeight iM_worthSum iM_firstRest iM_leastDrawn), (arI rM_fresh kM_fresh 287 f_6200), (arI rM_fresher kM_fresher 8 f_6180)]) hD hS hA [0, 3, 5] rfl
            refine va_callv (va_runV (As := [.int p0]) (rest := []) ⟨hx, hb, hml, hown, hts⟩ (tX7_lay l dC dI _ oM iM_thrown rM_tape iM_taped iM_size z_6184 z_6185 z_6186 z_6187 z_6188 z_6189 z_6190 iM_trouble rM_letters z_6191 iM_hasCourt rM_r rM_fresh f_6200 kM_fresh rM_told rM_read rM_st rM_undone rM_kept iM_undos iM_images rM_fresher f_6180 kM_fresher x_6178 iM_scale iM_night rM_heardRow rM_cutRow iM_breaths iM_cutMany iM_allBreaths rM_trial rM_words iM_fewestBreaths iM_orderMany iM_orderSum iM_leastOrder rM_often iM_setMany iM_someOf iM_allOf iM_allWeight iM_enoughWeight iM_worthSum iM_firstRest iM_leastDrawn p0 (by first | omega | decide) (by first | omega | decide) (by first | exact b_z_6185 | omega | decide) (by first | exact b_z_6188 | omega | decide) (by first | exact b_z_6191 | omega | decide) (by first | omega | decide) (by first | omega | decide) (by first | omega | decide) (by first | omega | decide) (by first | omega | decide) (by first | omega | decide) (by first | assumption | exact (fun h9 => by have q0 := kc_0; have q1 := kc_1; omega)) (by first | omega | decide | assumption | (have q0 := kc_0; have q1 := kc_1; omega) | (intro h; exact absurd h (by decide))) (by first | omega | decide | assumption | (have q0 := kc_0; have q1 := kc_1; omega) | (intro h; exact absurd h (by decide)))) (cwV 1 hts (wd_V wd_478 wd_479 wd_480 wd_5 (wd_c wd_481)) rfl rfl rfl (by decide +kernel) ⟨Nat.le_of_ble_eq_true rfl, Nat.le_of_ble_eq_true rfl⟩) ⟨Pw.fb, va_recv hK hP (ci := 7) (q0 := 0) rfl rfl, fun U hU hW => Pw.to (hP.sub [0, 3, 5] rfl) (hD.sub [0, 3, 5] (by decide) rfl) (hK.sub [2, 4] rfl) hE hS hFc hU hW⟩ rfl rfl hl.1 rfl (lv_room (Nat.le_of_ble_eq_true rfl)) dX7_innerLine_218 ⟨Nat.le_of_ble_eq_true rfl, Nat.le_of_ble_eq_true rfl⟩) hS (fun q _ h => hFc q h) hFc (fun u t H locs ht hvm hw hB hz1 hk1 hS => ?_)
            obtain ⟨f_6201, e_f_6201_0, e_f_6201_1, hB⟩ := hB
            obtain ⟨hP, hD, hK⟩ := Bw.go (ws' := [(arI rM_tape kM_tape 900 fM_tape), (arI rM_letters kM_letters 8 f_6192), (arI rM_read kM_read 90 f_6194), (oc7 oM iM_thrown rM_tape iM_taped iM_size z_6184 z_6185 z_6186 z_6187 z_6188 z_6189 z_6190 iM_trouble rM_letters z_6191 iM_hasCourt rM_r rM_fresh rM_told rM_read rM_st rM_undone rM_kept iM_undos iM_images rM_fresher x_6178 iM_scale iM_night rM_heardRow rM_cutRow iM_breaths iM_cutMany iM_allBreaths rM_trial rM_words iM_fewestBreaths iM_orderMany iM_orderSum iM_leastOrder rM_often iM_setMany iM_someOf iM_allOf iM_allWeight iM_enoughWeight iM_worthSum iM_firstRest iM_leastDrawn), (arI rM_fresh kM_fresh 287 f_6201), (arI rM_fresher kM_fresher 8 f_6180)]) (tys' := [(kM_tape, .int), (kM_letters, .int), (kM_read, .int), (kM_fresh, .int), (kM_fresher, .int)]) hB rfl ht hvm hP hD hK [0, 3, 5] [1, 2, 4] rfl (by decide) (by decide) [0, 1, 3] hk1 hFc rfl rfl rfl
            clear hz1 hk1 hvm ht hB
            have o2_f_6201 : (f_6201 2).toInt = (f_6200 2).toInt := by rw [(e_f_6201_0).2.2.1 2 (by decide) (by decide) (by have q1 := ti_cl (x := f_6200 1) rfl (by omega); omega)]
            have o7_f_6201 : (f_6201 7).toInt = (f_6200 7).toInt := by rw [(e_f_6201_0).2.2.1 7 (by decide) (by decide) (by have q1 := ti_cl (x := f_6200 1) rfl (by omega); omega)]
            have o8_f_6201 : (f_6201 8).toInt = (f_6200 8).toInt := by rw [(e_f_6201_0).2.2.1 8 (by decide) (by decide) (by have q1 := ti_cl (x := f_6200 1) rfl (by omega); omega)]
            have hG := hG.trans (lt_eq e_f_6201_1.symm)
            refine lv_aload_n hx hb dX7_innerLine_221 rfl (lv_at hl 3 rfl) ?_
            refine va_get (D := (dC, dI)) (ci := 7) (v := .ref rM_fresh) (C := RX7) (T := TX7) (N := 48) hx hb hts inX7 hown hK hP 3 rfl rfl 16 (by decide) (hts _ wd_156) (fun _ h9 => h9) rfl dX7_innerLine_222 ?_
            refine lv_bipush (v := 7) hx hb dX7_innerLine_225 (by decide) ?_
            refine lv_dup2_11 hx hb dX7_innerLine_227 rfl rfl ?_
            refine va_iald hx hb hK hP 4 3 rfl rfl (by unfold vp_in; decide) dX7_innerLine_228 ?_
            refine lv_topi (fun x_6202 ex_6202 => ?_)
            have hG := hG.trans (lt_eq ex_6202)
            have cx_6202 : (f_6201 7).toInt = x_6202.toInt := congrArg Int32.toInt (show f_6201 7 = x_6202 from ex_6202.symm)
            refine lv_iconst (v := 1) hx hb dX7_innerLine_229 (by decide) ?_
            refine lv_iadd hx hb dX7_innerLine_230 ?_
            refine lv_topi (fun x_6203 ex_6203 => ?_)
            have hG := hG.trans (lt_eq ex_6203)
            have vx_6203 : x_6203.toInt = x_6202.toInt + 1 := by have q := ti_add ex_6203 rfl kc_1 (by omega) (by omega); omega
            refine va_iast hx hb hK hP hD hS 4 3 rfl rfl (by unfold vp_in; decide) dX7_innerLine_231 (fun H locs hP hD hS => ?_)
            obtain ⟨f_6204, ef_6204⟩ : ∃ g : Nat → Int32, g = upd f_6201 (7 : Int32).toNatClampNeg x_6203 := ⟨_, rfl⟩
            rw [← ef_6204] at hP hD
            have hG := hG.trans (lt_eq ef_6204)
            obtain ⟨hP, hD⟩ := wl2 (ws' := [(arI rM_tape kM_tape 900 fM_tape), (arI rM_letters kM_letters 8 f_6192), (arI rM_read kM_read 90 f_6194), (oc7 oM iM_thrown rM_tape iM_taped iM_size z_6184 z_6185 z_6186 z_6187 z_6188 z_6189 z_6190 iM_trouble rM_letters z_6191 iM_hasCourt rM_r rM_fresh rM_told rM_read rM_st rM_undone rM_kept iM_undos iM_images rM_fresher x_6178 iM_scale iM_night rM_heardRow rM_cutRow iM_breaths iM_cutMany iM_allBreaths rM_trial rM_words iM_fewestBreaths iM_orderMany iM_orderSum iM_leastOrder rM_often iM_setMany iM_someOf iM_allOf iM_allWeight iM_enoughWeight iM_worthSum iM_firstRest iM_leastDrawn), (arI rM_fresh kM_fresh 287 f_6204), (arI rM_fresher kM_fresher 8 f_6180)]) hP hD rfl
            have o8_f_6204 : (f_6204 8).toInt = (f_6201 8).toInt := put_at ef_6204 (by decide)
            refine lv_aload_n hx hb dX7_innerLine_232 rfl (lv_at hl 3 rfl) ?_
            refine va_get (D := (dC, dI)) (ci := 7) (v := .ref rM_fresh) (C := RX7) (T := TX7) (N := 48) hx hb hts inX7 hown hK hP 3 rfl rfl 16 (by decide) (hts _ wd_156) (fun _ h9 => h9) rfl dX7_innerLine_233 ?_
            refine lv_bipush (v := 8) hx hb dX7_innerLine_236 (by decide) ?_
            refine lv_dup2_11 hx hb dX7_innerLine_238 rfl rfl ?_
            refine va_iald hx hb hK hP 4 3 rfl rfl (by unfold vp_in; decide) dX7_innerLine_239 ?_
            refine lv_topi (fun x_6205 ex_6205 => ?_)
            have hG := hG.trans (lt_eq ex_6205)
            have cx_6205 : (f_6204 8).toInt = x_6205.toInt := congrArg Int32.toInt (show f_6204 8 = x_6205 from ex_6205.symm)
            refine lv_iload_n hx hb dX7_innerLine_240 rfl (lv_at hl 4 rfl) ?_
            refine lv_iconst (v := 3) hx hb dX7_innerLine_241 (by decide) ?_
            refine lv_icmp_ne (tgt := 249) hx hb dX7_innerLine_242 (by decide) (fun c_6206 => ?_) (fun c_6206 => ?_)
            · skip
              have hG := hG.trans (if_neg c_6206)
              have gc_6206 := ti_ne c_6206 rfl kc_3
              replace gc_6206 : p0.toInt + (-2) ≤ 0 := by omega
              clear hic
              refine lv_iconst (v := 0) hx hb dX7_innerLine_249 (by decide) ?_
              refine lv_iadd hx hb dX7_innerLine_250 ?_
              refine lv_topi (fun x_6207 ex_6207 => ?_)
              have hG := hG.trans (lt_eq ex_6207)
              have vx_6207 : x_6207.toInt = x_6205.toInt := by have q := ti_add ex_6207 rfl kc_0 (by omega) (by omega); omega
              refine va_iast hx hb hK hP hD hS 4 3 rfl rfl (by unfold vp_in; decide) dX7_innerLine_251 (fun H locs hP hD hS => ?_)
              obtain ⟨f_6208, ef_6208⟩ : ∃ g : Nat → Int32, g = upd f_6204 (8 : Int32).toNatClampNeg x_6207 := ⟨_, rfl⟩
              rw [← ef_6208] at hP hD
              have hG := hG.trans (lt_eq ef_6208)
              obtain ⟨hP, hD⟩ := wl2 (ws' := [(arI rM_tape kM_tape 900 fM_tape), (arI rM_letters kM_letters 8 f_6192), (arI rM_read kM_read 90 f_6194), (oc7 oM iM_thrown rM_tape iM_taped iM_size z_6184 z_6185 z_6186 z_6187 z_6188 z_6189 z_6190 iM_trouble rM_letters z_6191 iM_hasCourt rM_r rM_fresh rM_told rM_read rM_st rM_undone rM_kept iM_undos iM_images rM_fresher x_6178 iM_scale iM_night rM_heardRow rM_cutRow iM_breaths iM_cutMany iM_allBreaths rM_trial rM_words iM_fewestBreaths iM_orderMany iM_orderSum iM_leastOrder rM_often iM_setMany iM_someOf iM_allOf iM_allWeight iM_enoughWeight iM_worthSum iM_firstRest iM_leastDrawn), (arI rM_fresh kM_fresh 287 f_6208), (arI rM_fresher kM_fresher 8 f_6180)]) hP hD rfl
              have pk_f_6208 : POk f_6208 f_6194 := POk.inner (f := f_6193) (m := z_6182.toNatClampNeg) hi2_n_6195 ef_6200 (by have q9 := ti_cl (x := x_6199) vx_6199 (by omega); have q2 := ti_cl (x := f_6193 1) rfl (by omega); omega) (by have q3 := ti_cl (x := z_6182) rfl (by omega); omega) (by have q3 := ti_cl (x := z_6182) rfl (by omega); omega) (by have q3 := ti_cl (x := z_6182) rfl (by omega); omega) e_f_6201_0 (by omega) ef_6204 rfl (by have q := vx_6203; omega) ef_6208 rfl (by have q := vx_6207; have q0 := kc_0; have q1 := kc_1; first | (rw [if_pos (by omega)]; omega) | (rw [if_neg (by omega)]; omega)) (by omega) (fun h9 => by omega) hi3_n_6195
              have pl_f_6208 := pk_f_6208.lins
              exact W.vret hx hb hr (fun t ht hW => ⟨⟨0, rfl, trivial, ⟨z_6184, z_6185, z_6186, z_6187, z_6188, z_6189, z_6190, z_6191, x_6178, f_6192, f_6208, f_6194, f_6180, b_z_6185, b_z_6188, b_z_6191, (by first | assumption | (have q0 := kc_0; have q1 := kc_1; omega)), hi6_n_6195, (by first | assumption | (have q0 := kc_0; have q1 := kc_1; omega)), (fun h9 => by have q0 := kc_0; have q1 := kc_1; have q9 := hi8_n_6195 (by omega); omega), (by first | assumption | (have q0 := kc_0; have q1 := kc_1; omega)), hG, Bw.to (hP.sub [3, 0, 1, 4, 2, 5] rfl) (hD.sub [3, 0, 1, 4, 2, 5] (by decide) rfl) (hK.sub [0, 1, 3, 2, 4] rfl) ht hW⟩⟩, hS.F ht⟩) hS.2.2 dX7_innerLine_252
            · skip
              have hG := hG.trans (if_pos c_6206)
              have gc_6206 := ti_eq c_6206 rfl kc_3
              have h_6209 := hic (by omega)
              clear hic
              refine lv_iconst (v := 1) hx hb dX7_innerLine_245 (by decide) ?_
              refine lv_goto (tgt := 250) hx hb dX7_innerLine_246 (by decide) ?_
              refine lv_iadd hx hb dX7_innerLine_250 ?_
              refine lv_topi (fun x_6210 ex_6210 => ?_)
              have hG := hG.trans (lt_eq ex_6210)
              have vx_6210 : x_6210.toInt = x_6205.toInt + 1 := by have q := ti_add ex_6210 rfl kc_1 (by omega) (by omega); omega
              refine va_iast hx hb hK hP hD hS 4 3 rfl rfl (by unfold vp_in; decide) dX7_innerLine_251 (fun H locs hP hD hS => ?_)
              obtain ⟨f_6211, ef_6211⟩ : ∃ g : Nat → Int32, g = upd f_6204 (8 : Int32).toNatClampNeg x_6210 := ⟨_, rfl⟩
              rw [← ef_6211] at hP hD
              have hG := hG.trans (lt_eq ef_6211)
              obtain ⟨hP, hD⟩ := wl2 (ws' := [(arI rM_tape kM_tape 900 fM_tape), (arI rM_letters kM_letters 8 f_6192), (arI rM_read kM_read 90 f_6194), (oc7 oM iM_thrown rM_tape iM_taped iM_size z_6184 z_6185 z_6186 z_6187 z_6188 z_6189 z_6190 iM_trouble rM_letters z_6191 iM_hasCourt rM_r rM_fresh rM_told rM_read rM_st rM_undone rM_kept iM_undos iM_images rM_fresher x_6178 iM_scale iM_night rM_heardRow rM_cutRow iM_breaths iM_cutMany iM_allBreaths rM_trial rM_words iM_fewestBreaths iM_orderMany iM_orderSum iM_leastOrder rM_often iM_setMany iM_someOf iM_allOf iM_allWeight iM_enoughWeight iM_worthSum iM_firstRest iM_leastDrawn), (arI rM_fresh kM_fresh 287 f_6211), (arI rM_fresher kM_fresher 8 f_6180)]) hP hD rfl
              have pk_f_6211 : POk f_6211 f_6194 := POk.inner (f := f_6193) (m := z_6182.toNatClampNeg) hi2_n_6195 ef_6200 (by have q9 := ti_cl (x := x_6199) vx_6199 (by omega); have q2 := ti_cl (x := f_6193 1) rfl (by omega); omega) (by have q3 := ti_cl (x := z_6182) rfl (by omega); omega) (by have q3 := ti_cl (x := z_6182) rfl (by omega); omega) (by have q3 := ti_cl (x := z_6182) rfl (by omega); omega) e_f_6201_0 (by omega) ef_6204 rfl (by have q := vx_6203; omega) ef_6211 rfl (by have q := vx_6210; have q0 := kc_0; have q1 := kc_1; first | (rw [if_pos (by omega)]; omega) | (rw [if_neg (by omega)]; omega)) (by omega) (fun h9 => by omega) hi3_n_6195
              have pl_f_6211 := pk_f_6211.lins
              exact W.vret hx hb hr (fun t ht hW => ⟨⟨0, rfl, trivial, ⟨z_6184, z_6185, z_6186, z_6187, z_6188, z_6189, z_6190, z_6191, x_6178, f_6192, f_6211, f_6194, f_6180, b_z_6185, b_z_6188, b_z_6191, (by first | assumption | (have q0 := kc_0; have q1 := kc_1; omega)), hi6_n_6195, (by first | assumption | (have q0 := kc_0; have q1 := kc_1; omega)), (fun h9 => by have q0 := kc_0; have q1 := kc_1; have q9 := hi8_n_6195 (by omega); omega), (by first | assumption | (have q0 := kc_0; have q1 := kc_1; omega)), hG, Bw.to (hP.sub [3, 0, 1, 4, 2, 5] rfl) (hD.sub [3, 0, 1, 4, 2, 5] (by decide) rfl) (hK.sub [0, 1, 3, 2, 4] rfl) ht hW⟩⟩, hS.F ht⟩) hS.2.2 dX7_innerLine_252
          · skip
            have hG := hG.trans (if_neg c_6198)
            have gc_6198 := ti_ne c_6198 rfl kc_0
            replace gc_6198 : (-1) * z_6191.toInt + 1 ≤ 0 := by omega
            exact W.vret hx hb hr (fun t ht hW => ⟨⟨0, rfl, trivial, ⟨z_6184, z_6185, z_6186, z_6187, z_6188, z_6189, z_6190, z_6191, x_6178, f_6192, f_6193, f_6194, f_6180, b_z_6185, b_z_6188, b_z_6191, (by first | assumption | (have q0 := kc_0; have q1 := kc_1; omega)), hi6_n_6195, (by first | assumption | (have q0 := kc_0; have q1 := kc_1; omega)), (fun h9 => by have q0 := kc_0; have q1 := kc_1; omega), (by first | assumption | (have q0 := kc_0; have q1 := kc_1; omega)), hG, Bw.to (hP.sub [0, 1, 2, 3, 4, 5] rfl) (hD.sub [0, 1, 2, 3, 4, 5] (by decide) rfl) (hK.sub [0, 1, 2, 3, 4] rfl) ht hW⟩⟩, hS.F ht⟩) hS.2.2 dX7_innerLine_205
        · skip
          have hG := hG.trans (if_neg c_6196)
          have gc_6196 := ti_ne c_6196 rfl kc_0
          replace gc_6196 : (-1) * z_6183.toInt + 1 ≤ 0 := by omega
          clear hi5_n_6195
          refine lv_aload_n hx hb dX7_innerLine_29 rfl (lv_at hl 3 rfl) ?_
          refine va_get (D := (dC, dI)) (ci := 7) (v := .int z_6191) (C := RX7) (T := TX7) (N := 48) hx hb hts inX7 hown hK hP 0 rfl rfl 13 (by decide) (hts _ wd_380) (fun _ h9 => h9) rfl dX7_innerLine_30 ?_
          refine lv_if_ne (tgt := 198) hx hb dX7_innerLine_33 (by decide) (fun c_6212 => ?_) (fun c_6212 => ?_)
          · skip
            have hG := hG.trans (if_neg c_6212)
            have gc_6212 := ti_ne c_6212 rfl kc_0
            replace gc_6212 : (-1) * z_6191.toInt + 1 ≤ 0 := by omega
            refine lv_aload_n hx hb dX7_innerLine_198 rfl (lv_at hl 3 rfl) ?_
            refine va_get (D := (dC, dI)) (ci := 7) (v := .int z_6191) (C := RX7) (T := TX7) (N := 48) hx hb hts inX7 hown hK hP 0 rfl rfl 13 (by decide) (hts _ wd_380) (fun _ h9 => h9) rfl dX7_innerLine_199 ?_
            refine lv_if_eq (tgt := 206) hx hb dX7_innerLine_202 (by decide) (fun c_6213 => ?_) (fun c_6213 => ?_)
            · skip
              have hG := hG.trans (if_pos c_6213)
              have gc_6213 := ti_eq c_6213 rfl kc_0
              exfalso; clear hG; omega
            · skip
              have hG := hG.trans (if_neg c_6213)
              have gc_6213 := ti_ne c_6213 rfl kc_0
              replace gc_6213 : (-1) * z_6191.toInt + 1 ≤ 0 := by omega
              exact W.vret hx hb hr (fun t ht hW => ⟨⟨0, rfl, trivial, ⟨z_6184, z_6185, z_6186, z_6187, z_6188, z_6189, z_6190, z_6191, x_6178, f_6192, f_6193, f_6194, f_6180, b_z_6185, b_z_6188, b_z_6191, (by first | assumption | (have q0 := kc_0; have q1 := kc_1; omega)), hi6_n_6195, (by first | assumption | (have q0 := kc_0; have q1 := kc_1; omega)), (fun h9 => by have q0 := kc_0; have q1 := kc_1; omega), (by first | assumption | (have q0 := kc_0; have q1 := kc_1; omega)), hG, Bw.to (hP.sub [0, 1, 2, 3, 4, 5] rfl) (hD.sub [0, 1, 2, 3, 4, 5] (by decide) rfl) (hK.sub [0, 1, 2, 3, 4] rfl) ht hW⟩⟩, hS.F ht⟩) hS.2.2 dX7_innerLine_205
          · skip
            have hG := hG.trans (if_pos c_6212)
            have gc_6212 := ti_eq c_6212 rfl kc_0
            refine lv_aload_n hx hb dX7_innerLine_36 rfl (lv_at hl 3 rfl) ?_
            have hFc := va_free (wc := [(oc7 oM iM_thrown rM_tape iM_taped iM_size z_6184 z_6185 z_6186 z_6187 z_6188 z_6189 z_6190 iM_trouble rM_letters z_6191 iM_hasCourt rM_r rM_fresh rM_told rM_read rM_st rM_undone rM_kept iM_undos iM_images rM_fresher x_6178 iM_scale iM_night rM_heardRow rM_cutRow iM_breaths iM_cutMany iM_allBreaths rM_trial rM_words iM_fewestBreaths iM_orderMany iM_orderSum iM_leastOrder rM_often iM_setMany iM_someOf iM_allOf iM_allWeight iM_enoughWeight iM_worthSum iM_firstRest iM_leastDrawn), (arI rM_letters kM_letters 8 f_6192), (arI rM_fresh kM_fresh 287 f_6193), (arI rM_read kM_read 90 f_6194)]) hD hS hA [0, 2, 3, 4] rfl
            refine va_calli (va_runV (As := []) (rest := []) ⟨hx, hb, hml, hown, hts⟩ (tX7_nodeHere l dC dI _ oM iM_thrown rM_tape iM_taped iM_size z_6184 z_6185 z_6186 z_6187 z_6188 z_6189 z_6190 iM_trouble rM_letters f_6192 kM_letters z_6191 iM_hasCourt rM_r rM_fresh f_6193 kM_fresh rM_told rM_read f_6194 kM_read rM_st rM_undone rM_kept iM_undos iM_images rM_fresher x_6178 iM_scale iM_night rM_heardRow rM_cutRow iM_breaths iM_cutMany iM_allBreaths rM_trial rM_words iM_fewestBreaths iM_orderMany iM_orderSum iM_leastOrder rM_often iM_setMany iM_someOf iM_allOf iM_allWeight iM_enoughWeight iM_worthSum iM_firstRest iM_leastDrawn (by first | omega | decide) (by first | omega | decide) (by first | exact b_z_6185 | omega | decide) (by first | exact b_z_6188 | omega | decide) (by first | exact b_z_6191 | omega | decide) (by first | omega | decide) (by first | omega | decide) (by first | omega | decide) (by first | omega | decide) (by first | omega | decide) (by first | omega | decide) (by first | assumption | exact (fun h9 => by have q0 := kc_0; have q1 := kc_1; omega)) (by assumption)) (cwV 0 hts (wd_V wd_486 wd_487 wd_488 wd_5 (wd_c wd_489)) rfl rfl rfl (by decide +kernel) ⟨Nat.le_of_ble_eq_true rfl, Nat.le_of_ble_eq_true rfl⟩) ⟨Pw.fb, va_recv hK hP (ci := 7) (q0 := 0) rfl rfl, fun U hU hW => Pw.to (hP.sub [0, 2, 3, 4] rfl) (hD.sub [0, 2, 3, 4] (by decide) rfl) (hK.sub [1, 2, 3] rfl) hE hS hFc hU hW⟩ rfl rfl hl.1 rfl (lv_room (Nat.le_of_ble_eq_true rfl)) dX7_innerLine_37 ⟨Nat.le_of_ble_eq_true rfl, Nat.le_of_ble_eq_true rfl⟩) hS (fun q _ h => hFc q h) hFc (fun r u t H locs ht hvm hw hB hz1 hk1 hS => ?_)
            have hru9 := hw.2
            have hw := hw.1
            obtain ⟨x_6214, x_6215, x_6216, b_x_6216, e_x_6214_0, e_x_6214_1, e_x_6214_2, hB⟩ := hB
            obtain ⟨hP, hD, hK⟩ := Bw.go (ws' := [(arI rM_tape kM_tape 900 fM_tape), (arI rM_fresher kM_fresher 8 f_6180), (oc7 oM iM_thrown rM_tape iM_taped iM_size z_6184 z_6185 z_6186 z_6187 z_6188 x_6214 x_6215 iM_trouble rM_letters x_6216 iM_hasCourt rM_r rM_fresh rM_told rM_read rM_st rM_undone rM_kept iM_undos iM_images rM_fresher x_6178 iM_scale iM_night rM_heardRow rM_cutRow iM_breaths iM_cutMany iM_allBreaths rM_trial rM_words iM_fewestBreaths iM_orderMany iM_orderSum iM_leastOrder rM_often iM_setMany iM_someOf iM_allOf iM_allWeight iM_enoughWeight iM_worthSum iM_firstRest iM_leastDrawn), (arI rM_letters kM_letters 8 f_6192), (arI rM_fresh kM_fresh 287 f_6193), (arI rM_read kM_read 90 f_6194)]) (tys' := [(kM_tape, .int), (kM_fresher, .int), (kM_letters, .int), (kM_fresh, .int), (kM_read, .int)]) hB rfl ht hvm hP hD hK [0, 2, 3, 4] [1, 5] rfl (by decide) (by decide) [0, 4] hk1 hFc rfl rfl rfl
            clear hz1 hk1 hvm ht hB
            rw [← hru9] at e_x_6214_2
            obtain ⟨x_6217, rfl⟩ : ∃ z, z = r := ⟨_, rfl⟩
            have hG := hG.trans (un4_eq e_x_6214_2)
            have lx_6217 := hw.2
            have ux_6217 := hw.2
            refine lv_istore (lv' := [(5, .int x_6217), (4, .int z_6183), (3, .int z_6182), (2, .int x_6181), (0, .ref oM), (1, .int p0)]) hx hb dX7_innerLine_40 hl (by decide) rfl (fun ls hl => ?_)
            refine lv_iconst (v := 0) hx hb dX7_innerLine_42 (by decide) ?_
            refine lv_istore (lv' := [(6, .int 0), (5, .int x_6217), (4, .int z_6183), (3, .int z_6182), (2, .int x_6181), (0, .ref oM), (1, .int p0)]) hx hb dX7_innerLine_43 hl (by decide) rfl (fun ls hl => ?_)
            have hl := lv_sub hl (l' := [(6, .int 0), (5, .int x_6217), (4, .int z_6183), (3, .int z_6182), (2, .int x_6181), (0, .ref oM), (1, .int p0)]) [0, 1, 2, 3, 4, 5, 6] rfl
            have key_n_6222 : ∀ (n_6222 : Nat) (z_6218 : Int32) (z_6219 : Int32) (z_6220 : Int32) (z_6221 : Int32) (H : Heap) (locs : List Loc) (ls : Array Slot), (0 ≤ z_6219.toInt ∧ z_6219.toInt ≤ 1) → (0 ≤ z_6218.toInt ∧ z_6218.toInt ≤ z_6182.toInt) → (x_6216.toInt ≤ z_6219.toInt) → (NeI z_6219.toInt z_6218.toNatClampNeg f_6194 x_6181.toNatClampNeg x_6217.toInt) → (z_6182.toInt - z_6218.toInt).toNat < n_6222 → (PX7_innerLine fM_tape iM_size iM_at iM_end iM_token iM_whole iM_nameSize iM_fault iM_place fM_letters iM_failed fM_fresh fM_read fM_fresher iM_fresherSize p0 = HX7_innerLine_1 fM_tape iM_size p0 x_6178 f_6180 x_6181 z_6182 z_6184 z_6185 z_6186 z_6187 z_6188 f_6192 f_6193 f_6194 x_6217 (fun (z_6182 : Int32) (z_6183 : Int32) (z_6184 : Int32) (z_6185 : Int32) (z_6186 : Int32) (z_6187 : Int32) (z_6188 : Int32) (z_6189 : Int32) (z_6190 : Int32) (z_6191 : Int32) (f_6192 : Nat → Int32) (f_6193 : Nat → Int32) (f_6194 : Nat → Int32) => HX7_innerLine_0 fM_tape iM_size p0 x_6178 f_6180 x_6181 n_6195 z_6182 z_6183 z_6184 z_6185 z_6186 z_6187 z_6188 z_6189 z_6190 z_6191 f_6192 f_6193 f_6194) n_6222 z_6218 z_6219 z_6220 z_6221) → va_P (dC, dI) vwCl [(arI rM_tape kM_tape 900 fM_tape), (arI rM_fresher kM_fresher 8 f_6180), (oc7 oM iM_thrown rM_tape iM_taped iM_size z_6184 z_6185 z_6186 z_6187 z_6188 z_6220 z_6221 iM_trouble rM_letters z_6219 iM_hasCourt rM_r rM_fresh rM_told rM_read rM_st rM_undone rM_kept iM_undos iM_images rM_fresher x_6178 iM_scale iM_night rM_heardRow rM_cutRow iM_breaths iM_cutMany iM_allBreaths rM_trial rM_words iM_fewestBreaths iM_orderMany iM_orderSum iM_leastOrder rM_often iM_setMany iM_someOf iM_allOf iM_allWeight iM_enoughWeight iM_worthSum iM_firstRest iM_leastDrawn), (arI rM_letters kM_letters 8 f_6192), (arI rM_fresh kM_fresh 287 f_6193), (arI rM_read kM_read 90 f_6194)] H → va_D A [(arI rM_tape kM_tape 900 fM_tape), (arI rM_fresher kM_fresher 8 f_6180), (oc7 oM iM_thrown rM_tape iM_taped iM_size z_6184 z_6185 z_6186 z_6187 z_6188 z_6220 z_6221 iM_trouble rM_letters z_6219 iM_hasCourt rM_r rM_fresh rM_told rM_read rM_st rM_undone rM_kept iM_undos iM_images rM_fresher x_6178 iM_scale iM_night rM_heardRow rM_cutRow iM_breaths iM_cutMany iM_allBreaths rM_trial rM_words iM_fewestBreaths iM_orderMany iM_orderSum iM_leastOrder rM_often iM_setMany iM_someOf iM_allOf iM_allWeight iM_enoughWeight iM_worthSum iM_firstRest iM_leastDrawn), (arI rM_letters kM_letters 8 f_6192), (arI rM_fresh kM_fresh 287 f_6193), (arI rM_read kM_read 90 f_6194)] → va_S A s.heap H locs → lv_has ls 7 [(6, .int z_6218), (5, .int x_6217), (4, .int z_6183), (3, .int z_6182), (2, .int x_6181), (0, .ref oM), (1, .int p0)] → W p l e (headSpec (Cond.code yX7_innerLine cX7_innerLine 7 none :: wG) ({ frames := 7, cells := 0, slots := 0, locals := 175 })).room s m ([.ref oM, .int p0] : List Value).toArray below meth c H locs 0 0 (MQ below (va_Qv (fun (_ : Nat) => True) (fun (_ : Nat) (t : State) => ∃ (niM_at : Int32) (niM_end : Int32) (niM_token : Int32) (niM_whole : Int32) (niM_nameSize : Int32) (niM_fault : Int32) (niM_place : Int32) (niM_failed : Int32) (niM_fresherSize : Int32) (nfM_letters : Nat → Int32) (nfM_fresh : Nat → Int32) (nfM_read : Nat → Int32) (nfM_fresher : Nat → Int32), (0 ≤ niM_end.toInt ∧ niM_end.toInt ≤ 900) ∧ (0 ≤ niM_nameSize.toInt ∧ niM_nameSize.toInt ≤ 900) ∧ (0 ≤ niM_failed.toInt ∧ niM_failed.toInt ≤ 1) ∧ (iM_end.toInt ≤ niM_end.toInt) ∧ (ImpP (niM_token.toInt = 2) (niM_nameSize.toInt ≤ 8)) ∧ (iM_failed.toInt ≤ niM_failed.toInt) ∧ (ImpP (niM_failed.toInt ≤ 0 ∧ niM_token.toInt = 59 ) (iM_end.toInt + 1 ≤ niM_end.toInt)) ∧ (POk nfM_fresh nfM_read) ∧ (PX7_innerLine fM_tape iM_size iM_at iM_end iM_token iM_whole iM_nameSize iM_fault iM_place fM_letters iM_failed fM_fresh fM_read fM_fresher iM_fresherSize p0 = (niM_at, niM_end, niM_token, niM_whole, niM_nameSize, niM_fault, niM_place, niM_failed, niM_fresherSize, nfM_letters, nfM_fresh, nfM_read, nfM_fresher)) ∧ Bw dC dI A [(oc7 oM iM_thrown rM_tape iM_taped iM_size niM_at niM_end niM_token niM_whole niM_nameSize niM_fault niM_place iM_trouble rM_letters niM_failed iM_hasCourt rM_r rM_fresh rM_told rM_read rM_st rM_undone rM_kept iM_undos iM_images rM_fresher niM_fresherSize iM_scale iM_night rM_heardRow rM_cutRow iM_breaths iM_cutMany iM_allBreaths rM_trial rM_words iM_fewestBreaths iM_orderMany iM_orderSum iM_leastOrder rM_often iM_setMany iM_someOf iM_allOf iM_allWeight iM_enoughWeight iM_worthSum iM_firstRest iM_leastDrawn), (arI rM_tape kM_tape 900 fM_tape), (arI rM_letters kM_letters 8 nfM_letters), (arI rM_fresh kM_fresh 287 nfM_fresh), (arI rM_read kM_read 90 nfM_read), (arI rM_fresher kM_fresher 8 nfM_fresher)] [(kM_tape, .int), (kM_letters, .int), (kM_fresh, .int), (kM_read, .int), (kM_fresher, .int)] t) A) ([.ref oM, .int p0] : List Value).toArray s 0 0 A) (F0 m 45 ls []) := by
              intro n_6222
              induction n_6222 with
              | zero => intro z_6218 z_6219 z_6220 z_6221 H locs ls b_z_6219 hi0_n_6222 hi1_n_6222 hi2_n_6222 hm; exact absurd hm (by omega)
              | succ n_6222 ih_n_6222 =>
                intro z_6218 z_6219 z_6220 z_6221 H locs ls b_z_6219 hi0_n_6222 hi1_n_6222 hi2_n_6222 hm hG hP hD hS hl
                have hG := hG.trans (HX7_innerLine_1_eq _ _ _ _ _ _ _ _ _ _ _ _ _ _ _ _ _ _ _ _ _ _)
                refine lv_iload hx hb dX7_innerLine_45 (lv_at hl 0 rfl) ?_
                refine lv_iload_n hx hb dX7_innerLine_47 rfl (lv_at hl 3 rfl) ?_
                refine lv_icmp_ge (tgt := 89) hx hb dX7_innerLine_48 (by decide) (fun c_6223 => ?_) (fun c_6223 => ?_)
                · skip
                  have hG := hG.trans (if_pos c_6223)
                  have gc_6223 := ti_le c_6223 rfl rfl
                  refine lv_aload_n hx hb dX7_innerLine_89 rfl (lv_at hl 5 rfl) ?_
                  refine va_get (D := (dC, dI)) (ci := 7) (v := .int z_6219) (C := RX7) (T := TX7) (N := 48) hx hb hts inX7 hown hK hP 2 rfl rfl 13 (by decide) (hts _ wd_380) (fun _ h9 => h9) rfl dX7_innerLine_90 ?_
                  refine lv_if_ne (tgt := 110) hx hb dX7_innerLine_93 (by decide) (fun c_6224 => ?_) (fun c_6224 => ?_)
                  · skip
                    have hG := hG.trans (if_neg c_6224)
                    have gc_6224 := ti_ne c_6224 rfl kc_0
                    replace gc_6224 : (-1) * z_6219.toInt + 1 ≤ 0 := by omega
                    refine lv_aload_n hx hb dX7_innerLine_110 rfl (lv_at hl 5 rfl) ?_
                    have hFc := va_free (wc := [(oc7 oM iM_thrown rM_tape iM_taped iM_size z_6184 z_6185 z_6186 z_6187 z_6188 z_6220 z_6221 iM_trouble rM_letters z_6219 iM_hasCourt rM_r rM_fresh rM_told rM_read rM_st rM_undone rM_kept iM_undos iM_images rM_fresher x_6178 iM_scale iM_night rM_heardRow rM_cutRow iM_breaths iM_cutMany iM_allBreaths rM_trial rM_words iM_fewestBreaths iM_orderMany iM_orderSum iM_leastOrder rM_often iM_setMany iM_someOf iM_allOf iM_allWeight iM_enoughWeight iM_worthSum iM_firstRest iM_leastDrawn), (arI rM_tape kM_tape 900 fM_tape), (arI rM_letters kM_letters 8 f_6192)]) hD hS hA [2, 0, 3] rfl
                    refine va_callv (va_runV (As := []) (rest := []) ⟨hx, hb, hml, hown, hts⟩ (tX7_pass l dC dI _ oM iM_thrown rM_tape fM_tape kM_tape iM_taped iM_size z_6184 z_6185 z_6186 z_6187 z_6188 z_6220 z_6221 iM_trouble rM_letters f_6192 kM_letters z_6219 iM_hasCourt rM_r rM_fresh rM_told rM_read rM_st rM_undone rM_kept iM_undos iM_images rM_fresher x_6178 iM_scale iM_night rM_heardRow rM_cutRow iM_breaths iM_cutMany iM_allBreaths rM_trial rM_words iM_fewestBreaths iM_orderMany iM_orderSum iM_leastOrder rM_often iM_setMany iM_someOf iM_allOf iM_allWeight iM_enoughWeight iM_worthSum iM_firstRest iM_leastDrawn (by first | omega | decide) (by first | omega | decide) (by first | exact b_z_6185 | omega | decide) (by first | exact b_z_6188 | omega | decide) (by first | exact b_z_6219 | omega | decide) (by first | omega | decide) (by first | omega | decide) (by first | omega | decide) (by first | omega | decide) (by first | omega | decide) (by first | omega | decide) (by first | assumption | exact (fun h9 => by have q0 := kc_0; have q1 := kc_1; omega))) (cwV 0 hts (wd_V wd_454 wd_455 wd_456 wd_5 (wd_c wd_457)) rfl rfl rfl (by decide +kernel) ⟨Nat.le_of_ble_eq_true rfl, Nat.le_of_ble_eq_true rfl⟩) ⟨Pw.fb, va_recv hK hP (ci := 7) (q0 := 2) rfl rfl, fun U hU hW => Pw.to (hP.sub [2, 0, 3] rfl) (hD.sub [2, 0, 3] (by decide) rfl) (hK.sub [0, 2] rfl) hE hS hFc hU hW⟩ rfl rfl hl.1 rfl (lv_room (Nat.le_of_ble_eq_true rfl)) dX7_innerLine_111 ⟨Nat.le_of_ble_eq_true rfl, Nat.le_of_ble_eq_true rfl⟩) hS (fun q _ h => hFc q h) hFc (fun u t H locs ht hvm hw hB hz1 hk1 hS => ?_)
                    obtain ⟨x_6225, x_6226, x_6227, x_6228, x_6229, f_6230, b_x_6226, b_x_6229, e_x_6225_0, e_x_6225_1, e_x_6225_2, e_x_6225_3, hB⟩ := hB
                    obtain ⟨hP, hD, hK⟩ := Bw.go (ws' := [(arI rM_fresher kM_fresher 8 f_6180), (arI rM_fresh kM_fresh 287 f_6193), (arI rM_read kM_read 90 f_6194), (oc7 oM iM_thrown rM_tape iM_taped iM_size x_6225 x_6226 x_6227 x_6228 x_6229 z_6220 z_6221 iM_trouble rM_letters z_6219 iM_hasCourt rM_r rM_fresh rM_told rM_read rM_st rM_undone rM_kept iM_undos iM_images rM_fresher x_6178 iM_scale iM_night rM_heardRow rM_cutRow iM_breaths iM_cutMany iM_allBreaths rM_trial rM_words iM_fewestBreaths iM_orderMany iM_orderSum iM_leastOrder rM_often iM_setMany iM_someOf iM_allOf iM_allWeight iM_enoughWeight iM_worthSum iM_firstRest iM_leastDrawn), (arI rM_tape kM_tape 900 fM_tape), (arI rM_letters kM_letters 8 f_6230)]) (tys' := [(kM_fresher, .int), (kM_fresh, .int), (kM_read, .int), (kM_tape, .int), (kM_letters, .int)]) hB rfl ht hvm hP hD hK [2, 0, 3] [1, 4, 5] rfl (by decide) (by decide) [1, 3, 4] hk1 hFc rfl rfl rfl
                    clear hz1 hk1 hvm ht hB
                    have hG := hG.trans (un6_eq e_x_6225_3)
                    clear hi6_n_6195
                    clear hi8_n_6195
                    refine lv_iload_n hx hb dX7_innerLine_114 rfl (lv_at hl 6 rfl) ?_
                    refine lv_iconst (v := 3) hx hb dX7_innerLine_115 (by decide) ?_
                    refine lv_icmp_ne (tgt := 129) hx hb dX7_innerLine_116 (by decide) (fun c_6231 => ?_) (fun c_6231 => ?_)
                    · skip
                      have hG := hG.trans (if_neg c_6231)
                      have gc_6231 := ti_ne c_6231 rfl kc_3
                      replace gc_6231 : p0.toInt + (-2) ≤ 0 := by omega
                      clear hic
                      refine lv_iconst (v := 0) hx hb dX7_innerLine_129 (by decide) ?_
                      refine lv_istore (lv' := [(6, .int 0), (5, .int x_6217), (4, .int z_6183), (3, .int z_6182), (2, .int x_6181), (0, .ref oM), (1, .int p0)]) hx hb dX7_innerLine_130 hl (by decide) rfl (fun ls hl => ?_)
                      refine lv_aload_n hx hb dX7_innerLine_132 rfl (lv_at hl 5 rfl) ?_
                      refine va_get (D := (dC, dI)) (ci := 7) (v := .int z_6219) (C := RX7) (T := TX7) (N := 48) hx hb hts inX7 hown hK hP 3 rfl rfl 13 (by decide) (hts _ wd_380) (fun _ h9 => h9) rfl dX7_innerLine_133 ?_
                      refine lv_if_eq (tgt := 140) hx hb dX7_innerLine_136 (by decide) (fun c_6232 => ?_) (fun c_6232 => ?_)
                      · skip
                        have hG := hG.trans (if_pos c_6232)
                        have gc_6232 := ti_eq c_6232 rfl kc_0
                        exfalso; clear hG; omega
                      · skip
                        have hG := hG.trans (if_neg c_6232)
                        have gc_6232 := ti_ne c_6232 rfl kc_0
                        replace gc_6232 : (-1) * z_6219.toInt + 1 ≤ 0 := by omega
                        exact W.vret hx hb hr (fun t ht hW => ⟨⟨0, rfl, trivial, ⟨x_6225, x_6226, x_6227, x_6228, x_6229, z_6220, z_6221, z_6219, x_6178, f_6230, f_6193, f_6194, f_6180, b_x_6226, b_x_6229, b_z_6219, (by first | assumption | (have q0 := kc_0; have q1 := kc_1; omega)), e_x_6225_1, (by first | assumption | (have q0 := kc_0; have q1 := kc_1; omega)), (fun h9 => by have q0 := kc_0; have q1 := kc_1; omega), (by first | assumption | (have q0 := kc_0; have q1 := kc_1; omega)), hG, Bw.to (hP.sub [3, 4, 5, 1, 2, 0] rfl) (hD.sub [3, 4, 5, 1, 2, 0] (by decide) rfl) (hK.sub [3, 4, 1, 2, 0] rfl) ht hW⟩⟩, hS.F ht⟩) hS.2.2 dX7_innerLine_139
                    · skip
                      have hG := hG.trans (if_pos c_6231)
                      have gc_6231 := ti_eq c_6231 rfl kc_3
                      have h_6233 := hic (by omega)
                      clear hic
                      refine lv_aload_n hx hb dX7_innerLine_119 rfl (lv_at hl 5 rfl) ?_
                      refine lv_iconst (v := 1) hx hb dX7_innerLine_120 (by decide) ?_
                      refine lv_bipush (v := 9) hx hb dX7_innerLine_121 (by decide) ?_
                      have hFc := va_free (wc := [(oc7 oM iM_thrown rM_tape iM_taped iM_size x_6225 x_6226 x_6227 x_6228 x_6229 z_6220 z_6221 iM_trouble rM_letters z_6219 iM_hasCourt rM_r rM_fresh rM_told rM_read rM_st rM_undone rM_kept iM_undos iM_images rM_fresher x_6178 iM_scale iM_night rM_heardRow rM_cutRow iM_breaths iM_cutMany iM_allBreaths rM_trial rM_words iM_fewestBreaths iM_orderMany iM_orderSum iM_leastOrder rM_often iM_setMany iM_someOf iM_allOf iM_allWeight iM_enoughWeight iM_worthSum iM_firstRest iM_leastDrawn), (arI rM_tape kM_tape 900 fM_tape), (arI rM_letters kM_letters 8 f_6230)]) hD hS hA [3, 4, 5] rfl
                      refine va_calli (va_runV (As := [.int 1, .int 9]) (rest := []) ⟨hx, hb, hml, hown, hts⟩ (tX7_number l dC dI _ oM iM_thrown rM_tape fM_tape kM_tape iM_taped iM_size x_6225 x_6226 x_6227 x_6228 x_6229 z_6220 z_6221 iM_trouble rM_letters f_6230 kM_letters z_6219 iM_hasCourt rM_r rM_fresh rM_told rM_read rM_st rM_undone rM_kept iM_undos iM_images rM_fresher x_6178 iM_scale iM_night rM_heardRow rM_cutRow iM_breaths iM_cutMany iM_allBreaths rM_trial rM_words iM_fewestBreaths iM_orderMany iM_orderSum iM_leastOrder rM_often iM_setMany iM_someOf iM_allOf iM_allWeight iM_enoughWeight iM_worthSum iM_firstRest iM_leastDrawn 1 9 (by first | omega | decide) (by first | omega | decide) (by first | exact b_x_6226 | omega | decide) (by first | exact b_x_6229 | omega | decide) (by first | exact b_z_6219 | omega | decide) (by first | omega | decide) (by first | omega | decide) (by first | omega | decide) (by first | omega | decide) (by first | omega | decide) (by first | omega | decide) (by first | assumption | exact (fun h9 => by have q0 := kc_0; have q1 := kc_1; omega)) (by first | omega | decide | assumption | (have q0 := kc_0; have q1 := kc_1; have q2 := kc_9; omega) | (intro h; exact absurd h (by decide)))) (cwV 2 hts (wd_V wd_446 wd_447 wd_448 wd_5 (wd_c wd_449)) rfl rfl rfl (by decide +kernel) ⟨Nat.le_of_ble_eq_true rfl, Nat.le_of_ble_eq_true rfl⟩) ⟨Pw.fb, va_recv hK hP (ci := 7) (q0 := 3) rfl rfl, fun U hU hW => Pw.to (hP.sub [3, 4, 5] rfl) (hD.sub [3, 4, 5] (by decide) rfl) (hK.sub [3, 4] rfl) hE hS hFc hU hW⟩ rfl rfl hl.1 rfl (lv_room (Nat.le_of_ble_eq_true rfl)) dX7_innerLine_123 ⟨Nat.le_of_ble_eq_true rfl, Nat.le_of_ble_eq_true rfl⟩) hS (fun q _ h => hFc q h) hFc (fun r u t H locs ht hvm hw hB hz1 hk1 hS => ?_)
                      have hru9 := hw.2
                      have hw := hw.1
                      obtain ⟨x_6234, x_6235, x_6236, x_6237, x_6238, x_6239, x_6240, x_6241, f_6242, b_x_6235, b_x_6238, b_x_6241, e_x_6234_0, e_x_6234_1, e_x_6234_2, e_x_6234_3, e_x_6234_4, hB⟩ := hB
                      obtain ⟨hP, hD, hK⟩ := Bw.go (ws' := [(arI rM_fresher kM_fresher 8 f_6180), (arI rM_fresh kM_fresh 287 f_6193), (arI rM_read kM_read 90 f_6194), (oc7 oM iM_thrown rM_tape iM_taped iM_size x_6234 x_6235 x_6236 x_6237 x_6238 x_6239 x_6240 iM_trouble rM_letters x_6241 iM_hasCourt rM_r rM_fresh rM_told rM_read rM_st rM_undone rM_kept iM_undos iM_images rM_fresher x_6178 iM_scale iM_night rM_heardRow rM_cutRow iM_breaths iM_cutMany iM_allBreaths rM_trial rM_words iM_fewestBreaths iM_orderMany iM_orderSum iM_leastOrder rM_often iM_setMany iM_someOf iM_allOf iM_allWeight iM_enoughWeight iM_worthSum iM_firstRest iM_leastDrawn), (arI rM_tape kM_tape 900 fM_tape), (arI rM_letters kM_letters 8 f_6242)]) (tys' := [(kM_fresher, .int), (kM_fresh, .int), (kM_read, .int), (kM_tape, .int), (kM_letters, .int)]) hB rfl ht hvm hP hD hK [3, 4, 5] [0, 1, 2] rfl (by decide) (by decide) [0, 1, 2] hk1 hFc rfl rfl rfl
                      clear hz1 hk1 hvm ht hB
                      rw [← hru9] at e_x_6234_4
                      obtain ⟨x_6243, rfl⟩ : ∃ z, z = r := ⟨_, rfl⟩
                      have hG := hG.trans (un10_eq e_x_6234_4)
                      have lx_6243 := hw.2
                      have kl_1 := kc_1
                      have kl_9 := kc_9
                      clear e_x_6225_1
                      clear e_x_6225_2
                      refine lv_goto (tgt := 130) hx hb dX7_innerLine_126 (by decide) ?_
                      refine lv_istore (lv' := [(6, .int x_6243), (5, .int x_6217), (4, .int z_6183), (3, .int z_6182), (2, .int x_6181), (0, .ref oM), (1, .int p0)]) hx hb dX7_innerLine_130 hl (by decide) rfl (fun ls hl => ?_)
                      refine lv_aload_n hx hb dX7_innerLine_132 rfl (lv_at hl 5 rfl) ?_
                      refine va_get (D := (dC, dI)) (ci := 7) (v := .int x_6241) (C := RX7) (T := TX7) (N := 48) hx hb hts inX7 hown hK hP 3 rfl rfl 13 (by decide) (hts _ wd_380) (fun _ h9 => h9) rfl dX7_innerLine_133 ?_
                      refine lv_if_eq (tgt := 140) hx hb dX7_innerLine_136 (by decide) (fun c_6244 => ?_) (fun c_6244 => ?_)
                      · skip
                        have hG := hG.trans (if_pos c_6244)
                        have gc_6244 := ti_eq c_6244 rfl kc_0
                        exfalso; clear hG; omega
                      · skip
                        have hG := hG.trans (if_neg c_6244)
                        have gc_6244 := ti_ne c_6244 rfl kc_0
                        replace gc_6244 : (-1) * x_6241.toInt + 1 ≤ 0 := by omega
                        exact W.vret hx hb hr (fun t ht hW => ⟨⟨0, rfl, trivial, ⟨x_6234, x_6235, x_6236, x_6237, x_6238, x_6239, x_6240, x_6241, x_6178, f_6242, f_6193, f_6194, f_6180, b_x_6235, b_x_6238, b_x_6241, (by first | assumption | (have q0 := kc_0; have q1 := kc_1; omega)), e_x_6234_1, (by first | assumption | (have q0 := kc_0; have q1 := kc_1; omega)), (fun h9 => by have q0 := kc_0; have q1 := kc_1; omega), (by first | assumption | (have q0 := kc_0; have q1 := kc_1; omega)), hG, Bw.to (hP.sub [3, 4, 5, 1, 2, 0] rfl) (hD.sub [3, 4, 5, 1, 2, 0] (by decide) rfl) (hK.sub [3, 4, 1, 2, 0] rfl) ht hW⟩⟩, hS.F ht⟩) hS.2.2 dX7_innerLine_139
                  · skip
                    have hG := hG.trans (if_pos c_6224)
                    have gc_6224 := ti_eq c_6224 rfl kc_0
                    have h_6245 := e_x_6214_1 (by omega)
                    clear e_x_6214_1
                    have h_6246 := lx_6217.2.1 (by omega)
                    refine lv_iload_n hx hb dX7_innerLine_96 rfl (lv_at hl 3 rfl) ?_
                    refine lv_iconst (v := 4) hx hb dX7_innerLine_97 (by decide) ?_
                    refine lv_icmp_ne (tgt := 110) hx hb dX7_innerLine_98 (by decide) (fun c_6247 => ?_) (fun c_6247 => ?_)
                    · skip
                      have hG := hG.trans (if_neg c_6247)
                      have gc_6247 := ti_ne c_6247 rfl kc_4
                      replace gc_6247 : z_6182.toInt + (-3) ≤ 0 := by omega
                      refine lv_aload_n hx hb dX7_innerLine_110 rfl (lv_at hl 5 rfl) ?_
                      have hFc := va_free (wc := [(oc7 oM iM_thrown rM_tape iM_taped iM_size z_6184 z_6185 z_6186 z_6187 z_6188 z_6220 z_6221 iM_trouble rM_letters z_6219 iM_hasCourt rM_r rM_fresh rM_told rM_read rM_st rM_undone rM_kept iM_undos iM_images rM_fresher x_6178 iM_scale iM_night rM_heardRow rM_cutRow iM_breaths iM_cutMany iM_allBreaths rM_trial rM_words iM_fewestBreaths iM_orderMany iM_orderSum iM_leastOrder rM_often iM_setMany iM_someOf iM_allOf iM_allWeight iM_enoughWeight iM_worthSum iM_firstRest iM_leastDrawn), (arI rM_tape kM_tape 900 fM_tape), (arI rM_letters kM_letters 8 f_6192)]) hD hS hA [2, 0, 3] rfl
                      refine va_callv (va_runV (As := []) (rest := []) ⟨hx, hb, hml, hown, hts⟩ (tX7_pass l dC dI _ oM iM_thrown rM_tape fM_tape kM_tape iM_taped iM_size z_6184 z_6185 z_6186 z_6187 z_6188 z_6220 z_6221 iM_trouble rM_letters f_6192 kM_letters z_6219 iM_hasCourt rM_r rM_fresh rM_told rM_read rM_st rM_undone rM_kept iM_undos iM_images rM_fresher x_6178 iM_scale iM_night rM_heardRow rM_cutRow iM_breaths iM_cutMany iM_allBreaths rM_trial rM_words iM_fewestBreaths iM_orderMany iM_orderSum iM_leastOrder rM_often iM_setMany iM_someOf iM_allOf iM_allWeight iM_enoughWeight iM_worthSum iM_firstRest iM_leastDrawn (by first | omega | decide) (by first | omega | decide) (by first | exact b_z_6185 | omega | decide) (by first | exact b_z_6188 | omega | decide) (by first | exact b_z_6219 | omega | decide) (by first | omega | decide) (by first | omega | decide) (by first | omega | decide) (by first | omega | decide) (by first | omega | decide) (by first | omega | decide) (by first | assumption | exact (fun h9 => by have q0 := kc_0; have q1 := kc_1; omega))) (cwV 0 hts (wd_V wd_454 wd_455 wd_456 wd_5 (wd_c wd_457)) rfl rfl rfl (by decide +kernel) ⟨Nat.le_of_ble_eq_true rfl, Nat.le_of_ble_eq_true rfl⟩) ⟨Pw.fb, va_recv hK hP (ci := 7) (q0 := 2) rfl rfl, fun U hU hW => Pw.to (hP.sub [2, 0, 3] rfl) (hD.sub [2, 0, 3] (by decide) rfl) (hK.sub [0, 2] rfl) hE hS hFc hU hW⟩ rfl rfl hl.1 rfl (lv_room (Nat.le_of_ble_eq_true rfl)) dX7_innerLine_111 ⟨Nat.le_of_ble_eq_true rfl, Nat.le_of_ble_eq_true rfl⟩) hS (fun q _ h => hFc q h) hFc (fun u t H locs ht hvm hw hB hz1 hk1 hS => ?_)
                      obtain ⟨x_6248, x_6249, x_6250, x_6251, x_6252, f_6253, b_x_6249, b_x_6252, e_x_6248_0, e_x_6248_1, e_x_6248_2, e_x_6248_3, hB⟩ := hB
                      obtain ⟨hP, hD, hK⟩ := Bw.go (ws' := [(arI rM_fresher kM_fresher 8 f_6180), (arI rM_fresh kM_fresh 287 f_6193), (arI rM_read kM_read 90 f_6194), (oc7 oM iM_thrown rM_tape iM_taped iM_size x_6248 x_6249 x_6250 x_6251 x_6252 z_6220 z_6221 iM_trouble rM_letters z_6219 iM_hasCourt rM_r rM_fresh rM_told rM_read rM_st rM_undone rM_kept iM_undos iM_images rM_fresher x_6178 iM_scale iM_night rM_heardRow rM_cutRow iM_breaths iM_cutMany iM_allBreaths rM_trial rM_words iM_fewestBreaths iM_orderMany iM_orderSum iM_leastOrder rM_often iM_setMany iM_someOf iM_allOf iM_allWeight iM_enoughWeight iM_worthSum iM_firstRest iM_leastDrawn), (arI rM_tape kM_tape 900 fM_tape), (arI rM_letters kM_letters 8 f_6253)]) (tys' := [(kM_fresher, .int), (kM_fresh, .int), (kM_read, .int), (kM_tape, .int), (kM_letters, .int)]) hB rfl ht hvm hP hD hK [2, 0, 3] [1, 4, 5] rfl (by decide) (by decide) [1, 3, 4] hk1 hFc rfl rfl rfl
                      clear hz1 hk1 hvm ht hB
                      have hG := hG.trans (un6_eq e_x_6248_3)
                      clear hi6_n_6195
                      clear hi8_n_6195
                      refine lv_iload_n hx hb dX7_innerLine_114 rfl (lv_at hl 6 rfl) ?_
                      refine lv_iconst (v := 3) hx hb dX7_innerLine_115 (by decide) ?_
                      refine lv_icmp_ne (tgt := 129) hx hb dX7_innerLine_116 (by decide) (fun c_6254 => ?_) (fun c_6254 => ?_)
                      · skip
                        have hG := hG.trans (if_neg c_6254)
                        have gc_6254 := ti_ne c_6254 rfl kc_3
                        replace gc_6254 : p0.toInt + (-2) ≤ 0 := by omega
                        clear hic
                        refine lv_iconst (v := 0) hx hb dX7_innerLine_129 (by decide) ?_
                        refine lv_istore (lv' := [(6, .int 0), (5, .int x_6217), (4, .int z_6183), (3, .int z_6182), (2, .int x_6181), (0, .ref oM), (1, .int p0)]) hx hb dX7_innerLine_130 hl (by decide) rfl (fun ls hl => ?_)
                        refine lv_aload_n hx hb dX7_innerLine_132 rfl (lv_at hl 5 rfl) ?_
                        refine va_get (D := (dC, dI)) (ci := 7) (v := .int z_6219) (C := RX7) (T := TX7) (N := 48) hx hb hts inX7 hown hK hP 3 rfl rfl 13 (by decide) (hts _ wd_380) (fun _ h9 => h9) rfl dX7_innerLine_133 ?_
                        refine lv_if_eq (tgt := 140) hx hb dX7_innerLine_136 (by decide) (fun c_6255 => ?_) (fun c_6255 => ?_)
                        · skip
                          have hG := hG.trans (if_pos c_6255)
                          have gc_6255 := ti_eq c_6255 rfl kc_0
                          refine lv_aload_n hx hb dX7_innerLine_140 rfl (lv_at hl 5 rfl) ?_
                          refine va_get (D := (dC, dI)) (ci := 7) (v := .ref rM_read) (C := RX7) (T := TX7) (N := 48) hx hb hts inX7 hown hK hP 3 rfl rfl 18 (by decide) (hts _ wd_158) (fun _ h9 => h9) rfl dX7_innerLine_141 ?_
                          refine lv_iconst (v := 4) hx hb dX7_innerLine_144 (by decide) ?_
                          refine lv_iload_n hx hb dX7_innerLine_145 rfl (lv_at hl 4 rfl) ?_
                          refine lv_imul hx hb dX7_innerLine_146 ?_
                          refine lv_topi (fun x_6256 ex_6256 => ?_)
                          have hG := hG.trans (lt_eq ex_6256)
                          have vx_6256 : x_6256.toInt = 4 * x_6181.toInt := by have q := ti_mul ex_6256 kc_4 rfl (by omega) (by omega); omega
                          refine lv_iload_n hx hb dX7_innerLine_147 rfl (lv_at hl 3 rfl) ?_
                          refine lv_iadd hx hb dX7_innerLine_148 ?_
                          refine lv_topi (fun x_6257 ex_6257 => ?_)
                          have hG := hG.trans (lt_eq ex_6257)
                          have vx_6257 : x_6257.toInt = 4 * x_6181.toInt + z_6182.toInt := by have q := ti_add ex_6257 vx_6256 rfl (by omega) (by omega); omega
                          refine lv_iload hx hb dX7_innerLine_149 (lv_at hl 1 rfl) ?_
                          refine va_iast hx hb hK hP hD hS 2 2 rfl rfl (ti_in vx_6257 (by omega) (by omega)) dX7_innerLine_151 (fun H locs hP hD hS => ?_)
                          obtain ⟨f_6258, ef_6258⟩ : ∃ g : Nat → Int32, g = upd f_6194 x_6257.toNatClampNeg x_6217 := ⟨_, rfl⟩
                          rw [← ef_6258] at hP hD
                          have hG := hG.trans (lt_eq ef_6258)
                          obtain ⟨hP, hD⟩ := wl2 (ws' := [(arI rM_fresher kM_fresher 8 f_6180), (arI rM_fresh kM_fresh 287 f_6193), (arI rM_read kM_read 90 f_6258), (oc7 oM iM_thrown rM_tape iM_taped iM_size x_6248 x_6249 x_6250 x_6251 x_6252 z_6220 z_6221 iM_trouble rM_letters z_6219 iM_hasCourt rM_r rM_fresh rM_told rM_read rM_st rM_undone rM_kept iM_undos iM_images rM_fresher x_6178 iM_scale iM_night rM_heardRow rM_cutRow iM_breaths iM_cutMany iM_allBreaths rM_trial rM_words iM_fewestBreaths iM_orderMany iM_orderSum iM_leastOrder rM_often iM_setMany iM_someOf iM_allOf iM_allWeight iM_enoughWeight iM_worthSum iM_firstRest iM_leastDrawn), (arI rM_tape kM_tape 900 fM_tape), (arI rM_letters kM_letters 8 f_6253)]) hP hD rfl
                          have q_n1 := ti_cl (x := f_6193 1) rfl (by omega)
                          have pk_f_6258 : POk f_6193 f_6258 := POk.prt hi2_n_6195 ef_6258 (by have q9 := ti_cl (x := x_6257) vx_6257 (by omega); omega) (by have q9 := ti_cl (x := x_6257) vx_6257 (by omega); omega)
                          refine lv_aload_n hx hb dX7_innerLine_152 rfl (lv_at hl 5 rfl) ?_
                          refine va_get (D := (dC, dI)) (ci := 7) (v := .ref rM_fresh) (C := RX7) (T := TX7) (N := 48) hx hb hts inX7 hown hK hP 3 rfl rfl 16 (by decide) (hts _ wd_156) (fun _ h9 => h9) rfl dX7_innerLine_153 ?_
                          refine lv_bipush (v := 45) hx hb dX7_innerLine_156 (by decide) ?_
                          refine lv_iconst (v := 4) hx hb dX7_innerLine_158 (by decide) ?_
                          refine lv_iload_n hx hb dX7_innerLine_159 rfl (lv_at hl 4 rfl) ?_
                          refine lv_imul hx hb dX7_innerLine_160 ?_
                          refine lv_topi (fun x_6259 ex_6259 => ?_)
                          have hG := hG.trans (lt_eq ex_6259)
                          have vx_6259 : x_6259.toInt = 4 * x_6181.toInt := by have q := ti_mul ex_6259 kc_4 rfl (by omega) (by omega); omega
                          refine lv_iadd hx hb dX7_innerLine_161 ?_
                          refine lv_topi (fun x_6260 ex_6260 => ?_)
                          have hG := hG.trans (lt_eq ex_6260)
                          have vx_6260 : x_6260.toInt = 4 * x_6181.toInt + 45 := by have q := ti_add ex_6260 kc_45 vx_6259 (by omega) (by omega); omega
                          refine lv_iload_n hx hb dX7_innerLine_162 rfl (lv_at hl 3 rfl) ?_
                          refine lv_iadd hx hb dX7_innerLine_163 ?_
                          refine lv_topi (fun x_6261 ex_6261 => ?_)
                          have hG := hG.trans (lt_eq ex_6261)
                          have vx_6261 : x_6261.toInt = 4 * x_6181.toInt + z_6182.toInt + 45 := by have q := ti_add ex_6261 vx_6260 rfl (by omega) (by omega); omega
                          refine lv_iload hx hb dX7_innerLine_164 (lv_at hl 0 rfl) ?_
                          refine va_iast hx hb hK hP hD hS 1 1 rfl rfl (ti_in vx_6261 (by omega) (by omega)) dX7_innerLine_166 (fun H locs hP hD hS => ?_)
                          obtain ⟨f_6262, ef_6262⟩ : ∃ g : Nat → Int32, g = upd f_6193 x_6261.toNatClampNeg (0 : Int32) := ⟨_, rfl⟩
                          rw [← ef_6262] at hP hD
                          have hG := hG.trans (lt_eq ef_6262)
                          obtain ⟨hP, hD⟩ := wl2 (ws' := [(arI rM_fresher kM_fresher 8 f_6180), (arI rM_fresh kM_fresh 287 f_6262), (arI rM_read kM_read 90 f_6258), (oc7 oM iM_thrown rM_tape iM_taped iM_size x_6248 x_6249 x_6250 x_6251 x_6252 z_6220 z_6221 iM_trouble rM_letters z_6219 iM_hasCourt rM_r rM_fresh rM_told rM_read rM_st rM_undone rM_kept iM_undos iM_images rM_fresher x_6178 iM_scale iM_night rM_heardRow rM_cutRow iM_breaths iM_cutMany iM_allBreaths rM_trial rM_words iM_fewestBreaths iM_orderMany iM_orderSum iM_leastOrder rM_often iM_setMany iM_someOf iM_allOf iM_allWeight iM_enoughWeight iM_worthSum iM_firstRest iM_leastDrawn), (arI rM_tape kM_tape 900 fM_tape), (arI rM_letters kM_letters 8 f_6253)]) hP hD rfl
                          have pk_f_6262 : POk f_6262 f_6258 := POk.put pk_f_6258 ef_6262 (Or.inr (Or.inr (Or.inr (Or.inr (Or.inr (Or.inl (by have q9 := ti_cl (x := x_6261) vx_6261 (by omega); have q8 := kc_0; omega)))))))
                          have pl_f_6262 := pk_f_6262.lins
                          have nn9 : (f_6193 1).toNatClampNeg = x_6181.toNatClampNeg := by have q1 := ti_cl (x := x_6181) rfl (by omega); have q2 := ti_cl (x := f_6193 1) rfl (by omega); have q3 := ti_cl (x := z_6182) rfl (by omega); omega
                          have in9 : InOk f_6262 f_6258 (f_6262 1).toNatClampNeg (z_6182.toNatClampNeg + 1) p0.toInt := in_step hi3_n_6195 rfl ef_6258 (by have q1 := ti_cl (x := x_6181) rfl (by omega); have q2 := ti_cl (x := f_6193 1) rfl (by omega); have q3 := ti_cl (x := z_6182) rfl (by omega); have q9 := ti_cl (x := x_6257) vx_6257 (by omega); omega) ef_6262 (by have q1 := ti_cl (x := x_6181) rfl (by omega); have q2 := ti_cl (x := f_6193 1) rfl (by omega); have q3 := ti_cl (x := z_6182) rfl (by omega); have q9 := ti_cl (x := x_6261) vx_6261 (by omega); omega) (by omega) (by have q1 := ti_cl (x := x_6181) rfl (by omega); have q2 := ti_cl (x := f_6193 1) rfl (by omega); have q3 := ti_cl (x := z_6182) rfl (by omega); omega) (fun i9 h9 => by rw [nn9]; exact hi2_n_6222 (by omega) i9 (by have q1 := ti_cl (x := x_6181) rfl (by omega); have q2 := ti_cl (x := f_6193 1) rfl (by omega); have q3 := ti_cl (x := z_6182) rfl (by omega); have q4 := ti_cl (x := z_6218) rfl (by omega); omega)) (fun h9 => by have q0 := kc_0; omega) rfl
                          have o1_f_6262 : (f_6262 1).toInt = (f_6193 1).toInt := put_at ef_6262 (by have q9 := ti_cl (x := x_6261) vx_6261 (by omega); omega)
                          have o7_f_6262 : (f_6262 7).toInt = (f_6193 7).toInt := put_at ef_6262 (by have q9 := ti_cl (x := x_6261) vx_6261 (by omega); omega)
                          have o8_f_6262 : (f_6262 8).toInt = (f_6193 8).toInt := put_at ef_6262 (by have q9 := ti_cl (x := x_6261) vx_6261 (by omega); omega)
                          obtain ⟨x_6263, ex_6263⟩ : ∃ z : Int32, z = z_6182 + Int32.ofInt 1 := ⟨_, rfl⟩
                          have hG := hG.trans (lt_eq ex_6263)
                          have vx_6263 : x_6263.toInt = z_6182.toInt + 1 := by have q := ti_add (y := 1) ex_6263 rfl kc_1 (by omega) (by omega); omega
                          refine lv_iinc (v := x_6263) (lv' := [(3, .int x_6263), (6, .int 0), (5, .int x_6217), (4, .int z_6183), (2, .int x_6181), (0, .ref oM), (1, .int p0)]) hx hb dX7_innerLine_167 hl (k := 3) rfl ex_6263.symm (by decide) rfl (fun ls hl => ?_)
                          refine lv_aload_n hx hb dX7_innerLine_170 rfl (lv_at hl 5 rfl) ?_
                          refine va_get (D := (dC, dI)) (ci := 7) (v := .int x_6250) (C := RX7) (T := TX7) (N := 48) hx hb hts inX7 hown hK hP 3 rfl rfl 6 (by decide) (hts _ wd_383) (fun _ h9 => h9) rfl dX7_innerLine_171 ?_
                          refine lv_bipush (v := 44) hx hb dX7_innerLine_174 (by decide) ?_
                          refine lv_icmp_ne (tgt := 183) hx hb dX7_innerLine_176 (by decide) (fun c_6264 => ?_) (fun c_6264 => ?_)
                          · skip
                            have hG := hG.trans (if_neg c_6264)
                            have gc_6264 := ti_ne c_6264 rfl kc_44
                            clear gc_6264
                            refine lv_iconst (v := 0) hx hb dX7_innerLine_183 (by decide) ?_
                            refine lv_istore (lv' := [(4, .int 0), (3, .int x_6263), (6, .int 0), (5, .int x_6217), (2, .int x_6181), (0, .ref oM), (1, .int p0)]) hx hb dX7_innerLine_184 hl (by decide) rfl (fun ls hl => ?_)
                            refine lv_iload hx hb dX7_innerLine_186 (lv_at hl 0 rfl) ?_
                            refine lv_if_eq (tgt := 195) hx hb dX7_innerLine_188 (by decide) (fun _ => ?_) (fun c => absurd c (by decide))
                            refine lv_goto (tgt := 24) hx hb dX7_innerLine_195 (by decide) ?_
                            exact ih_n_6195 x_6263 0 x_6248 x_6249 x_6250 x_6251 x_6252 z_6220 z_6221 z_6219 f_6253 f_6262 f_6258 _ _ _ b_x_6249 b_x_6252 b_z_6219 (by first | omega | decide | assumption) (by first | omega | decide | assumption) (by assumption) (by rw [show x_6263.toNatClampNeg = z_6182.toNatClampNeg + 1 from (by have q1 := ti_cl (x := x_6263) vx_6263 (by omega); have q2 := ti_cl (x := z_6182) rfl (by omega); omega)]; exact in9) (by first | omega | decide | assumption) (fun h9 => by have q0 := kc_0; have q1 := kc_1; omega) e_x_6248_1 (by first | omega | decide | assumption) (fun h9 => by have q0 := kc_0; have q1 := kc_1; have q9 := e_x_6248_2 (by omega); omega) (by omega) hG (hP.sub [3, 4, 5, 1, 2, 0] rfl) (hD.sub [3, 4, 5, 1, 2, 0] (by decide) rfl) hS (lv_sub hl [0, 1, 4, 5, 6] rfl)
                          · skip
                            have hG := hG.trans (if_pos c_6264)
                            have gc_6264 := ti_eq c_6264 rfl kc_44
                            refine lv_iconst (v := 1) hx hb dX7_innerLine_179 (by decide) ?_
                            refine lv_goto (tgt := 184) hx hb dX7_innerLine_180 (by decide) ?_
                            refine lv_istore (lv' := [(4, .int 1), (3, .int x_6263), (6, .int 0), (5, .int x_6217), (2, .int x_6181), (0, .ref oM), (1, .int p0)]) hx hb dX7_innerLine_184 hl (by decide) rfl (fun ls hl => ?_)
                            refine lv_iload hx hb dX7_innerLine_186 (lv_at hl 0 rfl) ?_
                            refine lv_if_eq (tgt := 195) hx hb dX7_innerLine_188 (by decide) (fun c => absurd c (by decide)) (fun _ => ?_)
                            refine lv_aload_n hx hb dX7_innerLine_191 rfl (lv_at hl 5 rfl) ?_
                            have hFc := va_free (wc := [(oc7 oM iM_thrown rM_tape iM_taped iM_size x_6248 x_6249 x_6250 x_6251 x_6252 z_6220 z_6221 iM_trouble rM_letters z_6219 iM_hasCourt rM_r rM_fresh rM_told rM_read rM_st rM_undone rM_kept iM_undos iM_images rM_fresher x_6178 iM_scale iM_night rM_heardRow rM_cutRow iM_breaths iM_cutMany iM_allBreaths rM_trial rM_words iM_fewestBreaths iM_orderMany iM_orderSum iM_leastOrder rM_often iM_setMany iM_someOf iM_allOf iM_allWeight iM_enoughWeight iM_worthSum iM_firstRest iM_leastDrawn), (arI rM_tape kM_tape 900 fM_tape), (arI rM_letters kM_letters 8 f_6253)]) hD hS hA [3, 4, 5] rfl
                            refine va_callv (va_runV (As := []) (rest := []) ⟨hx, hb, hml, hown, hts⟩ (tX7_next l dC dI _ oM iM_thrown rM_tape fM_tape kM_tape iM_taped iM_size x_6248 x_6249 x_6250 x_6251 x_6252 z_6220 z_6221 iM_trouble rM_letters f_6253 kM_letters z_6219 iM_hasCourt rM_r rM_fresh rM_told rM_read rM_st rM_undone rM_kept iM_undos iM_images rM_fresher x_6178 iM_scale iM_night rM_heardRow rM_cutRow iM_breaths iM_cutMany iM_allBreaths rM_trial rM_words iM_fewestBreaths iM_orderMany iM_orderSum iM_leastOrder rM_often iM_setMany iM_someOf iM_allOf iM_allWeight iM_enoughWeight iM_worthSum iM_firstRest iM_leastDrawn (by first | omega | decide) (by first | omega | decide) (by first | exact b_x_6249 | omega | decide) (by first | exact b_x_6252 | omega | decide) (by first | exact b_z_6219 | omega | decide) (by first | omega | decide) (by first | omega | decide) (by first | omega | decide) (by first | omega | decide) (by first | omega | decide) (by first | omega | decide) (by first | assumption | exact (fun h9 => by have q0 := kc_0; have q1 := kc_1; omega))) (cwV 0 hts (wd_V wd_400 wd_401 wd_402 wd_5 (wd_c wd_403)) rfl rfl rfl (by decide +kernel) ⟨Nat.le_of_ble_eq_true rfl, Nat.le_of_ble_eq_true rfl⟩) ⟨Pw.fb, va_recv hK hP (ci := 7) (q0 := 3) rfl rfl, fun U hU hW => Pw.to (hP.sub [3, 4, 5] rfl) (hD.sub [3, 4, 5] (by decide) rfl) (hK.sub [3, 4] rfl) hE hS hFc hU hW⟩ rfl rfl hl.1 rfl (lv_room (Nat.le_of_ble_eq_true rfl)) dX7_innerLine_192 ⟨Nat.le_of_ble_eq_true rfl, Nat.le_of_ble_eq_true rfl⟩) hS (fun q _ h => hFc q h) hFc (fun u t H locs ht hvm hw hB hz1 hk1 hS => ?_)
                            obtain ⟨x_6267, x_6268, x_6269, x_6270, x_6271, f_6272, b_x_6268, b_x_6271, e_x_6267_0, e_x_6267_1, e_x_6267_2, e_x_6267_3, hB⟩ := hB
                            obtain ⟨hP, hD, hK⟩ := Bw.go (ws' := [(arI rM_fresher kM_fresher 8 f_6180), (arI rM_fresh kM_fresh 287 f_6262), (arI rM_read kM_read 90 f_6258), (oc7 oM iM_thrown rM_tape iM_taped iM_size x_6267 x_6268 x_6269 x_6270 x_6271 z_6220 z_6221 iM_trouble rM_letters z_6219 iM_hasCourt rM_r rM_fresh rM_told rM_read rM_st rM_undone rM_kept iM_undos iM_images rM_fresher x_6178 iM_scale iM_night rM_heardRow rM_cutRow iM_breaths iM_cutMany iM_allBreaths rM_trial rM_words iM_fewestBreaths iM_orderMany iM_orderSum iM_leastOrder rM_often iM_setMany iM_someOf iM_allOf iM_allWeight iM_enoughWeight iM_worthSum iM_firstRest iM_leastDrawn), (arI rM_tape kM_tape 900 fM_tape), (arI rM_letters kM_letters 8 f_6272)]) (tys' := [(kM_fresher, .int), (kM_fresh, .int), (kM_read, .int), (kM_tape, .int), (kM_letters, .int)]) hB rfl ht hvm hP hD hK [3, 4, 5] [0, 1, 2] rfl (by decide) (by decide) [0, 1, 2] hk1 hFc rfl rfl rfl
                            clear hz1 hk1 hvm ht hB
                            have hG := hG.trans (un6_eq e_x_6267_3)
                            clear e_x_6248_1
                            clear e_x_6248_2
                            refine lv_goto (tgt := 24) hx hb dX7_innerLine_195 (by decide) ?_
                            exact ih_n_6195 x_6263 1 x_6267 x_6268 x_6269 x_6270 x_6271 z_6220 z_6221 z_6219 f_6272 f_6262 f_6258 _ _ _ b_x_6268 b_x_6271 b_z_6219 (by first | omega | decide | assumption) (by first | omega | decide | assumption) (by assumption) (by rw [show x_6263.toNatClampNeg = z_6182.toNatClampNeg + 1 from (by have q1 := ti_cl (x := x_6263) vx_6263 (by omega); have q2 := ti_cl (x := z_6182) rfl (by omega); omega)]; exact in9) (by first | omega | decide | assumption) (fun h9 => by have q0 := kc_0; have q1 := kc_1; omega) e_x_6267_1 (by first | omega | decide | assumption) (fun h9 => by have q0 := kc_0; have q1 := kc_1; have q9 := e_x_6267_2 (by omega); omega) (by omega) hG (hP.sub [3, 4, 5, 1, 2, 0] rfl) (hD.sub [3, 4, 5, 1, 2, 0] (by decide) rfl) hS (lv_sub hl [0, 1, 4, 5, 6] rfl)
                        · skip
                          have hG := hG.trans (if_neg c_6255)
                          have gc_6255 := ti_ne c_6255 rfl kc_0
                          replace gc_6255 : z_6219.toInt + 1 ≤ 0 := by omega
                          exfalso; clear hG; omega
                      · skip
                        have hG := hG.trans (if_pos c_6254)
                        have gc_6254 := ti_eq c_6254 rfl kc_3
                        have h_6273 := hic (by omega)
                        clear hic
                        refine lv_aload_n hx hb dX7_innerLine_119 rfl (lv_at hl 5 rfl) ?_
                        refine lv_iconst (v := 1) hx hb dX7_innerLine_120 (by decide) ?_
                        refine lv_bipush (v := 9) hx hb dX7_innerLine_121 (by decide) ?_
                        have hFc := va_free (wc := [(oc7 oM iM_thrown rM_tape iM_taped iM_size x_6248 x_6249 x_6250 x_6251 x_6252 z_6220 z_6221 iM_trouble rM_letters z_6219 iM_hasCourt rM_r rM_fresh rM_told rM_read rM_st rM_undone rM_kept iM_undos iM_images rM_fresher x_6178 iM_scale iM_night rM_heardRow rM_cutRow iM_breaths iM_cutMany iM_allBreaths rM_trial rM_words iM_fewestBreaths iM_orderMany iM_orderSum iM_leastOrder rM_often iM_setMany iM_someOf iM_allOf iM_allWeight iM_enoughWeight iM_worthSum iM_firstRest iM_leastDrawn), (arI rM_tape kM_tape 900 fM_tape), (arI rM_letters kM_letters 8 f_6253)]) hD hS hA [3, 4, 5] rfl
                        refine va_calli (va_runV (As := [.int 1, .int 9]) (rest := []) ⟨hx, hb, hml, hown, hts⟩ (tX7_number l dC dI _ oM iM_thrown rM_tape fM_tape kM_tape iM_taped iM_size x_6248 x_6249 x_6250 x_6251 x_6252 z_6220 z_6221 iM_trouble rM_letters f_6253 kM_letters z_6219 iM_hasCourt rM_r rM_fresh rM_told rM_read rM_st rM_undone rM_kept iM_undos iM_images rM_fresher x_6178 iM_scale iM_night rM_heardRow rM_cutRow iM_breaths iM_cutMany iM_allBreaths rM_trial rM_words iM_fewestBreaths iM_orderMany iM_orderSum iM_leastOrder rM_often iM_setMany iM_someOf iM_allOf iM_allWeight iM_enoughWeight iM_worthSum iM_firstRest iM_leastDrawn 1 9 (by first | omega | decide) (by first | omega | decide) (by first | exact b_x_6249 | omega | decide) (by first | exact b_x_6252 | omega | decide) (by first | exact b_z_6219 | omega | decide) (by first | omega | decide) (by first | omega | decide) (by first | omega | decide) (by first | omega | decide) (by first | omega | decide) (by first | omega | decide) (by first | assumption | exact (fun h9 => by have q0 := kc_0; have q1 := kc_1; omega)) (by first | omega | decide | assumption | (have q0 := kc_0; have q1 := kc_1; have q2 := kc_9; omega) | (intro h; exact absurd h (by decide)))) (cwV 2 hts (wd_V wd_446 wd_447 wd_448 wd_5 (wd_c wd_449)) rfl rfl rfl (by decide +kernel) ⟨Nat.le_of_ble_eq_true rfl, Nat.le_of_ble_eq_true rfl⟩) ⟨Pw.fb, va_recv hK hP (ci := 7) (q0 := 3) rfl rfl, fun U hU hW => Pw.to (hP.sub [3, 4, 5] rfl) (hD.sub [3, 4, 5] (by decide) rfl) (hK.sub [3, 4] rfl) hE hS hFc hU hW⟩ rfl rfl hl.1 rfl (lv_room (Nat.le_of_ble_eq_true rfl)) dX7_innerLine_123 ⟨Nat.le_of_ble_eq_true rfl, Nat.le_of_ble_eq_true rfl⟩) hS (fun q _ h => hFc q h) hFc (fun r u t H locs ht hvm hw hB hz1 hk1 hS => ?_)
                        have hru9 := hw.2
                        have hw := hw.1
                        obtain ⟨x_6274, x_6275, x_6276, x_6277, x_6278, x_6279, x_6280, x_6281, f_6282, b_x_6275, b_x_6278, b_x_6281, e_x_6274_0, e_x_6274_1, e_x_6274_2, e_x_6274_3, e_x_6274_4, hB⟩ := hB
                        obtain ⟨hP, hD, hK⟩ := Bw.go (ws' := [(arI rM_fresher kM_fresher 8 f_6180), (arI rM_fresh kM_fresh 287 f_6193), (arI rM_read kM_read 90 f_6194), (oc7 oM iM_thrown rM_tape iM_taped iM_size x_6274 x_6275 x_6276 x_6277 x_6278 x_6279 x_6280 iM_trouble rM_letters x_6281 iM_hasCourt rM_r rM_fresh rM_told rM_read rM_st rM_undone rM_kept iM_undos iM_images rM_fresher x_6178 iM_scale iM_night rM_heardRow rM_cutRow iM_breaths iM_cutMany iM_allBreaths rM_trial rM_words iM_fewestBreaths iM_orderMany iM_orderSum iM_leastOrder rM_often iM_setMany iM_someOf iM_allOf iM_allWeight iM_enoughWeight iM_worthSum iM_firstRest iM_leastDrawn), (arI rM_tape kM_tape 900 fM_tape), (arI rM_letters kM_letters 8 f_6282)]) (tys' := [(kM_fresher, .int), (kM_fresh, .int), (kM_read, .int), (kM_tape, .int), (kM_letters, .int)]) hB rfl ht hvm hP hD hK [3, 4, 5] [0, 1, 2] rfl (by decide) (by decide) [0, 1, 2] hk1 hFc rfl rfl rfl
                        clear hz1 hk1 hvm ht hB
                        rw [← hru9] at e_x_6274_4
                        obtain ⟨x_6283, rfl⟩ : ∃ z, z = r := ⟨_, rfl⟩
                        have hG := hG.trans (un10_eq e_x_6274_4)
                        have lx_6283 := hw.2
                        have kl_1 := kc_1
                        have kl_9 := kc_9
                        clear e_x_6248_1
                        clear e_x_6248_2
                        refine lv_goto (tgt := 130) hx hb dX7_innerLine_126 (by decide) ?_
                        refine lv_istore (lv' := [(6, .int x_6283), (5, .int x_6217), (4, .int z_6183), (3, .int z_6182), (2, .int x_6181), (0, .ref oM), (1, .int p0)]) hx hb dX7_innerLine_130 hl (by decide) rfl (fun ls hl => ?_)
                        refine lv_aload_n hx hb dX7_innerLine_132 rfl (lv_at hl 5 rfl) ?_
                        refine va_get (D := (dC, dI)) (ci := 7) (v := .int x_6281) (C := RX7) (T := TX7) (N := 48) hx hb hts inX7 hown hK hP 3 rfl rfl 13 (by decide) (hts _ wd_380) (fun _ h9 => h9) rfl dX7_innerLine_133 ?_
                        refine lv_if_eq (tgt := 140) hx hb dX7_innerLine_136 (by decide) (fun c_6284 => ?_) (fun c_6284 => ?_)
                        · skip
                          have hG := hG.trans (if_pos c_6284)
                          have gc_6284 := ti_eq c_6284 rfl kc_0
                          refine lv_aload_n hx hb dX7_innerLine_140 rfl (lv_at hl 5 rfl) ?_
                          refine va_get (D := (dC, dI)) (ci := 7) (v := .ref rM_read) (C := RX7) (T := TX7) (N := 48) hx hb hts inX7 hown hK hP 3 rfl rfl 18 (by decide) (hts _ wd_158) (fun _ h9 => h9) rfl dX7_innerLine_141 ?_
                          refine lv_iconst (v := 4) hx hb dX7_innerLine_144 (by decide) ?_
                          refine lv_iload_n hx hb dX7_innerLine_145 rfl (lv_at hl 4 rfl) ?_
                          refine lv_imul hx hb dX7_innerLine_146 ?_
                          refine lv_topi (fun x_6285 ex_6285 => ?_)
                          have hG := hG.trans (lt_eq ex_6285)
                          have vx_6285 : x_6285.toInt = 4 * x_6181.toInt := by have q := ti_mul ex_6285 kc_4 rfl (by omega) (by omega); omega
                          refine lv_iload_n hx hb dX7_innerLine_147 rfl (lv_at hl 3 rfl) ?_
                          refine lv_iadd hx hb dX7_innerLine_148 ?_
                          refine lv_topi (fun x_6286 ex_6286 => ?_)
                          have hG := hG.trans (lt_eq ex_6286)
                          have vx_6286 : x_6286.toInt = 4 * x_6181.toInt + z_6182.toInt := by have q := ti_add ex_6286 vx_6285 rfl (by omega) (by omega); omega
                          refine lv_iload hx hb dX7_innerLine_149 (lv_at hl 1 rfl) ?_
                          refine va_iast hx hb hK hP hD hS 2 2 rfl rfl (ti_in vx_6286 (by omega) (by omega)) dX7_innerLine_151 (fun H locs hP hD hS => ?_)
                          obtain ⟨f_6287, ef_6287⟩ : ∃ g : Nat → Int32, g = upd f_6194 x_6286.toNatClampNeg x_6217 := ⟨_, rfl⟩
                          rw [← ef_6287] at hP hD
                          have hG := hG.trans (lt_eq ef_6287)
                          obtain ⟨hP, hD⟩ := wl2 (ws' := [(arI rM_fresher kM_fresher 8 f_6180), (arI rM_fresh kM_fresh 287 f_6193), (arI rM_read kM_read 90 f_6287), (oc7 oM iM_thrown rM_tape iM_taped iM_size x_6274 x_6275 x_6276 x_6277 x_6278 x_6279 x_6280 iM_trouble rM_letters x_6281 iM_hasCourt rM_r rM_fresh rM_told rM_read rM_st rM_undone rM_kept iM_undos iM_images rM_fresher x_6178 iM_scale iM_night rM_heardRow rM_cutRow iM_breaths iM_cutMany iM_allBreaths rM_trial rM_words iM_fewestBreaths iM_orderMany iM_orderSum iM_leastOrder rM_often iM_setMany iM_someOf iM_allOf iM_allWeight iM_enoughWeight iM_worthSum iM_firstRest iM_leastDrawn), (arI rM_tape kM_tape 900 fM_tape), (arI rM_letters kM_letters 8 f_6282)]) hP hD rfl
                          have q_n1 := ti_cl (x := f_6193 1) rfl (by omega)
                          have pk_f_6287 : POk f_6193 f_6287 := POk.prt hi2_n_6195 ef_6287 (by have q9 := ti_cl (x := x_6286) vx_6286 (by omega); omega) (by have q9 := ti_cl (x := x_6286) vx_6286 (by omega); omega)
                          refine lv_aload_n hx hb dX7_innerLine_152 rfl (lv_at hl 5 rfl) ?_
                          refine va_get (D := (dC, dI)) (ci := 7) (v := .ref rM_fresh) (C := RX7) (T := TX7) (N := 48) hx hb hts inX7 hown hK hP 3 rfl rfl 16 (by decide) (hts _ wd_156) (fun _ h9 => h9) rfl dX7_innerLine_153 ?_
                          refine lv_bipush (v := 45) hx hb dX7_innerLine_156 (by decide) ?_
                          refine lv_iconst (v := 4) hx hb dX7_innerLine_158 (by decide) ?_
                          refine lv_iload_n hx hb dX7_innerLine_159 rfl (lv_at hl 4 rfl) ?_
                          refine lv_imul hx hb dX7_innerLine_160 ?_
                          refine lv_topi (fun x_6288 ex_6288 => ?_)
                          have hG := hG.trans (lt_eq ex_6288)
                          have vx_6288 : x_6288.toInt = 4 * x_6181.toInt := by have q := ti_mul ex_6288 kc_4 rfl (by omega) (by omega); omega
                          refine lv_iadd hx hb dX7_innerLine_161 ?_
                          refine lv_topi (fun x_6289 ex_6289 => ?_)
                          have hG := hG.trans (lt_eq ex_6289)
                          have vx_6289 : x_6289.toInt = 4 * x_6181.toInt + 45 := by have q := ti_add ex_6289 kc_45 vx_6288 (by omega) (by omega); omega
                          refine lv_iload_n hx hb dX7_innerLine_162 rfl (lv_at hl 3 rfl) ?_
                          refine lv_iadd hx hb dX7_innerLine_163 ?_
                          refine lv_topi (fun x_6290 ex_6290 => ?_)
                          have hG := hG.trans (lt_eq ex_6290)
                          have vx_6290 : x_6290.toInt = 4 * x_6181.toInt + z_6182.toInt + 45 := by have q := ti_add ex_6290 vx_6289 rfl (by omega) (by omega); omega
                          refine lv_iload hx hb dX7_innerLine_164 (lv_at hl 0 rfl) ?_
                          refine va_iast hx hb hK hP hD hS 1 1 rfl rfl (ti_in vx_6290 (by omega) (by omega)) dX7_innerLine_166 (fun H locs hP hD hS => ?_)
                          obtain ⟨f_6291, ef_6291⟩ : ∃ g : Nat → Int32, g = upd f_6193 x_6290.toNatClampNeg x_6283 := ⟨_, rfl⟩
                          rw [← ef_6291] at hP hD
                          have hG := hG.trans (lt_eq ef_6291)
                          obtain ⟨hP, hD⟩ := wl2 (ws' := [(arI rM_fresher kM_fresher 8 f_6180), (arI rM_fresh kM_fresh 287 f_6291), (arI rM_read kM_read 90 f_6287), (oc7 oM iM_thrown rM_tape iM_taped iM_size x_6274 x_6275 x_6276 x_6277 x_6278 x_6279 x_6280 iM_trouble rM_letters x_6281 iM_hasCourt rM_r rM_fresh rM_told rM_read rM_st rM_undone rM_kept iM_undos iM_images rM_fresher x_6178 iM_scale iM_night rM_heardRow rM_cutRow iM_breaths iM_cutMany iM_allBreaths rM_trial rM_words iM_fewestBreaths iM_orderMany iM_orderSum iM_leastOrder rM_often iM_setMany iM_someOf iM_allOf iM_allWeight iM_enoughWeight iM_worthSum iM_firstRest iM_leastDrawn), (arI rM_tape kM_tape 900 fM_tape), (arI rM_letters kM_letters 8 f_6282)]) hP hD rfl
                          have pk_f_6291 : POk f_6291 f_6287 := POk.put pk_f_6287 ef_6291 (Or.inr (Or.inr (Or.inr (Or.inr (Or.inr (Or.inl (by have q9 := ti_cl (x := x_6290) vx_6290 (by omega); omega)))))))
                          have pl_f_6291 := pk_f_6291.lins
                          have nn9 : (f_6193 1).toNatClampNeg = x_6181.toNatClampNeg := by have q1 := ti_cl (x := x_6181) rfl (by omega); have q2 := ti_cl (x := f_6193 1) rfl (by omega); have q3 := ti_cl (x := z_6182) rfl (by omega); omega
                          have in9 : InOk f_6291 f_6287 (f_6291 1).toNatClampNeg (z_6182.toNatClampNeg + 1) p0.toInt := in_step hi3_n_6195 rfl ef_6287 (by have q1 := ti_cl (x := x_6181) rfl (by omega); have q2 := ti_cl (x := f_6193 1) rfl (by omega); have q3 := ti_cl (x := z_6182) rfl (by omega); have q9 := ti_cl (x := x_6286) vx_6286 (by omega); omega) ef_6291 (by have q1 := ti_cl (x := x_6181) rfl (by omega); have q2 := ti_cl (x := f_6193 1) rfl (by omega); have q3 := ti_cl (x := z_6182) rfl (by omega); have q9 := ti_cl (x := x_6290) vx_6290 (by omega); omega) (by omega) (by have q1 := ti_cl (x := x_6181) rfl (by omega); have q2 := ti_cl (x := f_6193 1) rfl (by omega); have q3 := ti_cl (x := z_6182) rfl (by omega); omega) (fun i9 h9 => by rw [nn9]; exact hi2_n_6222 (by omega) i9 (by have q1 := ti_cl (x := x_6181) rfl (by omega); have q2 := ti_cl (x := f_6193 1) rfl (by omega); have q3 := ti_cl (x := z_6182) rfl (by omega); have q4 := ti_cl (x := z_6218) rfl (by omega); omega)) (fun h9 => by have q0 := kc_0; omega) rfl
                          have o1_f_6291 : (f_6291 1).toInt = (f_6193 1).toInt := put_at ef_6291 (by have q9 := ti_cl (x := x_6290) vx_6290 (by omega); omega)
                          have o7_f_6291 : (f_6291 7).toInt = (f_6193 7).toInt := put_at ef_6291 (by have q9 := ti_cl (x := x_6290) vx_6290 (by omega); omega)
                          have o8_f_6291 : (f_6291 8).toInt = (f_6193 8).toInt := put_at ef_6291 (by have q9 := ti_cl (x := x_6290) vx_6290 (by omega); omega)
                          obtain ⟨x_6292, ex_6292⟩ : ∃ z : Int32, z = z_6182 + Int32.ofInt 1 := ⟨_, rfl⟩
                          have hG := hG.trans (lt_eq ex_6292)
                          have vx_6292 : x_6292.toInt = z_6182.toInt + 1 := by have q := ti_add (y := 1) ex_6292 rfl kc_1 (by omega) (by omega); omega
                          refine lv_iinc (v := x_6292) (lv' := [(3, .int x_6292), (6, .int x_6283), (5, .int x_6217), (4, .int z_6183), (2, .int x_6181), (0, .ref oM), (1, .int p0)]) hx hb dX7_innerLine_167 hl (k := 3) rfl ex_6292.symm (by decide) rfl (fun ls hl => ?_)
                          refine lv_aload_n hx hb dX7_innerLine_170 rfl (lv_at hl 5 rfl) ?_
                          refine va_get (D := (dC, dI)) (ci := 7) (v := .int x_6276) (C := RX7) (T := TX7) (N := 48) hx hb hts inX7 hown hK hP 3 rfl rfl 6 (by decide) (hts _ wd_383) (fun _ h9 => h9) rfl dX7_innerLine_171 ?_
                          refine lv_bipush (v := 44) hx hb dX7_innerLine_174 (by decide) ?_
                          refine lv_icmp_ne (tgt := 183) hx hb dX7_innerLine_176 (by decide) (fun c_6293 => ?_) (fun c_6293 => ?_)
                          · skip
                            have hG := hG.trans (if_neg c_6293)
                            have gc_6293 := ti_ne c_6293 rfl kc_44
                            clear gc_6293
                            refine lv_iconst (v := 0) hx hb dX7_innerLine_183 (by decide) ?_
                            refine lv_istore (lv' := [(4, .int 0), (3, .int x_6292), (6, .int x_6283), (5, .int x_6217), (2, .int x_6181), (0, .ref oM), (1, .int p0)]) hx hb dX7_innerLine_184 hl (by decide) rfl (fun ls hl => ?_)
                            refine lv_iload hx hb dX7_innerLine_186 (lv_at hl 0 rfl) ?_
                            refine lv_if_eq (tgt := 195) hx hb dX7_innerLine_188 (by decide) (fun _ => ?_) (fun c => absurd c (by decide))
                            refine lv_goto (tgt := 24) hx hb dX7_innerLine_195 (by decide) ?_
                            exact ih_n_6195 x_6292 0 x_6274 x_6275 x_6276 x_6277 x_6278 x_6279 x_6280 x_6281 f_6282 f_6291 f_6287 _ _ _ b_x_6275 b_x_6278 b_x_6281 (by first | omega | decide | assumption) (by first | omega | decide | assumption) (by assumption) (by rw [show x_6292.toNatClampNeg = z_6182.toNatClampNeg + 1 from (by have q1 := ti_cl (x := x_6292) vx_6292 (by omega); have q2 := ti_cl (x := z_6182) rfl (by omega); omega)]; exact in9) (by first | omega | decide | assumption) (fun h9 => by have q0 := kc_0; have q1 := kc_1; omega) e_x_6274_1 (by first | omega | decide | assumption) (fun h9 => by have q0 := kc_0; have q1 := kc_1; have q9 := e_x_6274_3 (by omega); omega) (by omega) hG (hP.sub [3, 4, 5, 1, 2, 0] rfl) (hD.sub [3, 4, 5, 1, 2, 0] (by decide) rfl) hS (lv_sub hl [0, 1, 4, 5, 6] rfl)
                          · skip
                            have hG := hG.trans (if_pos c_6293)
                            have gc_6293 := ti_eq c_6293 rfl kc_44
                            refine lv_iconst (v := 1) hx hb dX7_innerLine_179 (by decide) ?_
                            refine lv_goto (tgt := 184) hx hb dX7_innerLine_180 (by decide) ?_
                            refine lv_istore (lv' := [(4, .int 1), (3, .int x_6292), (6, .int x_6283), (5, .int x_6217), (2, .int x_6181), (0, .ref oM), (1, .int p0)]) hx hb dX7_innerLine_184 hl (by decide) rfl (fun ls hl => ?_)
                            refine lv_iload hx hb dX7_innerLine_186 (lv_at hl 0 rfl) ?_
                            refine lv_if_eq (tgt := 195) hx hb dX7_innerLine_188 (by decide) (fun c => absurd c (by decide)) (fun _ => ?_)
                            refine lv_aload_n hx hb dX7_innerLine_191 rfl (lv_at hl 5 rfl) ?_
                            have hFc := va_free (wc := [(oc7 oM iM_thrown rM_tape iM_taped iM_size x_6274 x_6275 x_6276 x_6277 x_6278 x_6279 x_6280 iM_trouble rM_letters x_6281 iM_hasCourt rM_r rM_fresh rM_told rM_read rM_st rM_undone rM_kept iM_undos iM_images rM_fresher x_6178 iM_scale iM_night rM_heardRow rM_cutRow iM_breaths iM_cutMany iM_allBreaths rM_trial rM_words iM_fewestBreaths iM_orderMany iM_orderSum iM_leastOrder rM_often iM_setMany iM_someOf iM_allOf iM_allWeight iM_enoughWeight iM_worthSum iM_firstRest iM_leastDrawn), (arI rM_tape kM_tape 900 fM_tape), (arI rM_letters kM_letters 8 f_6282)]) hD hS hA [3, 4, 5] rfl
                            refine va_callv (va_runV (As := []) (rest := []) ⟨hx, hb, hml, hown, hts⟩ (tX7_next l dC dI _ oM iM_thrown rM_tape fM_tape kM_tape iM_taped iM_size x_6274 x_6275 x_6276 x_6277 x_6278 x_6279 x_6280 iM_trouble rM_letters f_6282 kM_letters x_6281 iM_hasCourt rM_r rM_fresh rM_told rM_read rM_st rM_undone rM_kept iM_undos iM_images rM_fresher x_6178 iM_scale iM_night rM_heardRow rM_cutRow iM_breaths iM_cutMany iM_allBreaths rM_trial rM_words iM_fewestBreaths iM_orderMany iM_orderSum iM_leastOrder rM_often iM_setMany iM_someOf iM_allOf iM_allWeight iM_enoughWeight iM_worthSum iM_firstRest iM_leastDrawn (by first | omega | decide) (by first | omega | decide) (by first | exact b_x_6275 | omega | decide) (by first | exact b_x_6278 | omega | decide) (by first | exact b_x_6281 | omega | decide) (by first | omega | decide) (by first | omega | decide) (by first | omega | decide) (by first | omega | decide) (by first | omega | decide) (by first | omega | decide) (by first | assumption | exact (fun h9 => by have q0 := kc_0; have q1 := kc_1; omega))) (cwV 0 hts (wd_V wd_400 wd_401 wd_402 wd_5 (wd_c wd_403)) rfl rfl rfl (by decide +kernel) ⟨Nat.le_of_ble_eq_true rfl, Nat.le_of_ble_eq_true rfl⟩) ⟨Pw.fb, va_recv hK hP (ci := 7) (q0 := 3) rfl rfl, fun U hU hW => Pw.to (hP.sub [3, 4, 5] rfl) (hD.sub [3, 4, 5] (by decide) rfl) (hK.sub [3, 4] rfl) hE hS hFc hU hW⟩ rfl rfl hl.1 rfl (lv_room (Nat.le_of_ble_eq_true rfl)) dX7_innerLine_192 ⟨Nat.le_of_ble_eq_true rfl, Nat.le_of_ble_eq_true rfl⟩) hS (fun q _ h => hFc q h) hFc (fun u t H locs ht hvm hw hB hz1 hk1 hS => ?_)
                            obtain ⟨x_6296, x_6297, x_6298, x_6299, x_6300, f_6301, b_x_6297, b_x_6300, e_x_6296_0, e_x_6296_1, e_x_6296_2, e_x_6296_3, hB⟩ := hB
                            obtain ⟨hP, hD, hK⟩ := Bw.go (ws' := [(arI rM_fresher kM_fresher 8 f_6180), (arI rM_fresh kM_fresh 287 f_6291), (arI rM_read kM_read 90 f_6287), (oc7 oM iM_thrown rM_tape iM_taped iM_size x_6296 x_6297 x_6298 x_6299 x_6300 x_6279 x_6280 iM_trouble rM_letters x_6281 iM_hasCourt rM_r rM_fresh rM_told rM_read rM_st rM_undone rM_kept iM_undos iM_images rM_fresher x_6178 iM_scale iM_night rM_heardRow rM_cutRow iM_breaths iM_cutMany iM_allBreaths rM_trial rM_words iM_fewestBreaths iM_orderMany iM_orderSum iM_leastOrder rM_often iM_setMany iM_someOf iM_allOf iM_allWeight iM_enoughWeight iM_worthSum iM_firstRest iM_leastDrawn), (arI rM_tape kM_tape 900 fM_tape), (arI rM_letters kM_letters 8 f_6301)]) (tys' := [(kM_fresher, .int), (kM_fresh, .int), (kM_read, .int), (kM_tape, .int), (kM_letters, .int)]) hB rfl ht hvm hP hD hK [3, 4, 5] [0, 1, 2] rfl (by decide) (by decide) [0, 1, 2] hk1 hFc rfl rfl rfl
                            clear hz1 hk1 hvm ht hB
                            have hG := hG.trans (un6_eq e_x_6296_3)
                            clear e_x_6274_1
                            clear e_x_6274_3
                            refine lv_goto (tgt := 24) hx hb dX7_innerLine_195 (by decide) ?_
                            exact ih_n_6195 x_6292 1 x_6296 x_6297 x_6298 x_6299 x_6300 x_6279 x_6280 x_6281 f_6301 f_6291 f_6287 _ _ _ b_x_6297 b_x_6300 b_x_6281 (by first | omega | decide | assumption) (by first | omega | decide | assumption) (by assumption) (by rw [show x_6292.toNatClampNeg = z_6182.toNatClampNeg + 1 from (by have q1 := ti_cl (x := x_6292) vx_6292 (by omega); have q2 := ti_cl (x := z_6182) rfl (by omega); omega)]; exact in9) (by first | omega | decide | assumption) (fun h9 => by have q0 := kc_0; have q1 := kc_1; omega) e_x_6296_1 (by first | omega | decide | assumption) (fun h9 => by have q0 := kc_0; have q1 := kc_1; have q9 := e_x_6296_2 (by omega); omega) (by omega) hG (hP.sub [3, 4, 5, 1, 2, 0] rfl) (hD.sub [3, 4, 5, 1, 2, 0] (by decide) rfl) hS (lv_sub hl [0, 1, 4, 5, 6] rfl)
                        · skip
                          have hG := hG.trans (if_neg c_6284)
                          have gc_6284 := ti_ne c_6284 rfl kc_0
                          replace gc_6284 : (-1) * x_6281.toInt + 1 ≤ 0 := by omega
                          exact W.vret hx hb hr (fun t ht hW => ⟨⟨0, rfl, trivial, ⟨x_6274, x_6275, x_6276, x_6277, x_6278, x_6279, x_6280, x_6281, x_6178, f_6282, f_6193, f_6194, f_6180, b_x_6275, b_x_6278, b_x_6281, (by first | assumption | (have q0 := kc_0; have q1 := kc_1; omega)), e_x_6274_1, (by first | assumption | (have q0 := kc_0; have q1 := kc_1; omega)), (fun h9 => by have q0 := kc_0; have q1 := kc_1; omega), (by first | assumption | (have q0 := kc_0; have q1 := kc_1; omega)), hG, Bw.to (hP.sub [3, 4, 5, 1, 2, 0] rfl) (hD.sub [3, 4, 5, 1, 2, 0] (by decide) rfl) (hK.sub [3, 4, 1, 2, 0] rfl) ht hW⟩⟩, hS.F ht⟩) hS.2.2 dX7_innerLine_139
                    · skip
                      have hG := hG.trans (if_pos c_6247)
                      have gc_6247 := ti_eq c_6247 rfl kc_4
                      refine lv_aload_n hx hb dX7_innerLine_101 rfl (lv_at hl 5 rfl) ?_
                      refine lv_iconst (v := 5) hx hb dX7_innerLine_102 (by decide) ?_
                      refine lv_aload_n hx hb dX7_innerLine_103 rfl (lv_at hl 5 rfl) ?_
                      refine va_get (D := (dC, dI)) (ci := 7) (v := .int z_6184) (C := RX7) (T := TX7) (N := 48) hx hb hts inX7 hown hK hP 2 rfl rfl 4 (by decide) (hts _ wd_384) (fun _ h9 => h9) rfl dX7_innerLine_104 ?_
                      have hFc := va_free (wc := [(oc7 oM iM_thrown rM_tape iM_taped iM_size z_6184 z_6185 z_6186 z_6187 z_6188 z_6220 z_6221 iM_trouble rM_letters z_6219 iM_hasCourt rM_r rM_fresh rM_told rM_read rM_st rM_undone rM_kept iM_undos iM_images rM_fresher x_6178 iM_scale iM_night rM_heardRow rM_cutRow iM_breaths iM_cutMany iM_allBreaths rM_trial rM_words iM_fewestBreaths iM_orderMany iM_orderSum iM_leastOrder rM_often iM_setMany iM_someOf iM_allOf iM_allWeight iM_enoughWeight iM_worthSum iM_firstRest iM_leastDrawn)]) hD hS hA [2] rfl
                      refine va_callv (va_runV (As := [.int 5, .int z_6184]) (rest := []) ⟨hx, hb, hml, hown, hts⟩ (tX7_wrong l dC dI _ oM iM_thrown rM_tape iM_taped iM_size z_6184 z_6185 z_6186 z_6187 z_6188 z_6220 z_6221 iM_trouble rM_letters z_6219 iM_hasCourt rM_r rM_fresh rM_told rM_read rM_st rM_undone rM_kept iM_undos iM_images rM_fresher x_6178 iM_scale iM_night rM_heardRow rM_cutRow iM_breaths iM_cutMany iM_allBreaths rM_trial rM_words iM_fewestBreaths iM_orderMany iM_orderSum iM_leastOrder rM_often iM_setMany iM_someOf iM_allOf iM_allWeight iM_enoughWeight iM_worthSum iM_firstRest iM_leastDrawn 5 z_6184 (by first | omega | decide) (by first | omega | decide) (by first | exact b_z_6185 | omega | decide) (by first | exact b_z_6188 | omega | decide) (by first | exact b_z_6219 | omega | decide) (by first | omega | decide) (by first | omega | decide) (by first | omega | decide) (by first | omega | decide) (by first | omega | decide) (by first | omega | decide) (by first | assumption | exact (fun h9 => by have q0 := kc_0; have q1 := kc_1; omega))) (cwV 2 hts (wd_V wd_430 wd_431 wd_432 wd_5 (wd_c wd_433)) rfl rfl rfl (by decide +kernel) ⟨Nat.le_of_ble_eq_true rfl, Nat.le_of_ble_eq_true rfl⟩) ⟨Pw.fb, va_recv hK hP (ci := 7) (q0 := 2) rfl rfl, fun U hU hW => Pw.to (hP.sub [2] rfl) (hD.sub [2] (by decide) rfl) (hK.sub [] rfl) hE hS hFc hU hW⟩ rfl rfl hl.1 rfl (lv_room (Nat.le_of_ble_eq_true rfl)) dX7_innerLine_107 ⟨Nat.le_of_ble_eq_true rfl, Nat.le_of_ble_eq_true rfl⟩) hS (fun q _ h => hFc q h) hFc (fun u t H locs ht hvm hw hB hz1 hk1 hS => ?_)
                      obtain ⟨x_6302, x_6303, x_6304, b_x_6304, e_x_6302_0, e_x_6302_1, hB⟩ := hB
                      obtain ⟨hP, hD, hK⟩ := Bw.go (ws' := [(arI rM_tape kM_tape 900 fM_tape), (arI rM_fresher kM_fresher 8 f_6180), (arI rM_letters kM_letters 8 f_6192), (arI rM_fresh kM_fresh 287 f_6193), (arI rM_read kM_read 90 f_6194), (oc7 oM iM_thrown rM_tape iM_taped iM_size z_6184 z_6185 z_6186 z_6187 z_6188 x_6302 x_6303 iM_trouble rM_letters x_6304 iM_hasCourt rM_r rM_fresh rM_told rM_read rM_st rM_undone rM_kept iM_undos iM_images rM_fresher x_6178 iM_scale iM_night rM_heardRow rM_cutRow iM_breaths iM_cutMany iM_allBreaths rM_trial rM_words iM_fewestBreaths iM_orderMany iM_orderSum iM_leastOrder rM_often iM_setMany iM_someOf iM_allOf iM_allWeight iM_enoughWeight iM_worthSum iM_firstRest iM_leastDrawn)]) (tys' := [(kM_tape, .int), (kM_fresher, .int), (kM_letters, .int), (kM_fresh, .int), (kM_read, .int)]) hB rfl ht hvm hP hD hK [2] [0, 1, 3, 4, 5] rfl (by decide) (by decide) [0, 1, 2, 3, 4] hk1 hFc rfl rfl rfl
                      clear hz1 hk1 hvm ht hB
                      have hG := hG.trans (un3_eq e_x_6302_1)
                      refine lv_aload_n hx hb dX7_innerLine_110 rfl (lv_at hl 5 rfl) ?_
                      have hFc := va_free (wc := [(oc7 oM iM_thrown rM_tape iM_taped iM_size z_6184 z_6185 z_6186 z_6187 z_6188 x_6302 x_6303 iM_trouble rM_letters x_6304 iM_hasCourt rM_r rM_fresh rM_told rM_read rM_st rM_undone rM_kept iM_undos iM_images rM_fresher x_6178 iM_scale iM_night rM_heardRow rM_cutRow iM_breaths iM_cutMany iM_allBreaths rM_trial rM_words iM_fewestBreaths iM_orderMany iM_orderSum iM_leastOrder rM_often iM_setMany iM_someOf iM_allOf iM_allWeight iM_enoughWeight iM_worthSum iM_firstRest iM_leastDrawn), (arI rM_tape kM_tape 900 fM_tape), (arI rM_letters kM_letters 8 f_6192)]) hD hS hA [5, 0, 2] rfl
                      refine va_callv (va_runV (As := []) (rest := []) ⟨hx, hb, hml, hown, hts⟩ (tX7_pass l dC dI _ oM iM_thrown rM_tape fM_tape kM_tape iM_taped iM_size z_6184 z_6185 z_6186 z_6187 z_6188 x_6302 x_6303 iM_trouble rM_letters f_6192 kM_letters x_6304 iM_hasCourt rM_r rM_fresh rM_told rM_read rM_st rM_undone rM_kept iM_undos iM_images rM_fresher x_6178 iM_scale iM_night rM_heardRow rM_cutRow iM_breaths iM_cutMany iM_allBreaths rM_trial rM_words iM_fewestBreaths iM_orderMany iM_orderSum iM_leastOrder rM_often iM_setMany iM_someOf iM_allOf iM_allWeight iM_enoughWeight iM_worthSum iM_firstRest iM_leastDrawn (by first | omega | decide) (by first | omega | decide) (by first | exact b_z_6185 | omega | decide) (by first | exact b_z_6188 | omega | decide) (by first | exact b_x_6304 | omega | decide) (by first | omega | decide) (by first | omega | decide) (by first | omega | decide) (by first | omega | decide) (by first | omega | decide) (by first | omega | decide) (by first | assumption | exact (fun h9 => by have q0 := kc_0; have q1 := kc_1; omega))) (cwV 0 hts (wd_V wd_454 wd_455 wd_456 wd_5 (wd_c wd_457)) rfl rfl rfl (by decide +kernel) ⟨Nat.le_of_ble_eq_true rfl, Nat.le_of_ble_eq_true rfl⟩) ⟨Pw.fb, va_recv hK hP (ci := 7) (q0 := 5) rfl rfl, fun U hU hW => Pw.to (hP.sub [5, 0, 2] rfl) (hD.sub [5, 0, 2] (by decide) rfl) (hK.sub [0, 2] rfl) hE hS hFc hU hW⟩ rfl rfl hl.1 rfl (lv_room (Nat.le_of_ble_eq_true rfl)) dX7_innerLine_111 ⟨Nat.le_of_ble_eq_true rfl, Nat.le_of_ble_eq_true rfl⟩) hS (fun q _ h => hFc q h) hFc (fun u t H locs ht hvm hw hB hz1 hk1 hS => ?_)
                      obtain ⟨x_6305, x_6306, x_6307, x_6308, x_6309, f_6310, b_x_6306, b_x_6309, e_x_6305_0, e_x_6305_1, e_x_6305_2, e_x_6305_3, hB⟩ := hB
                      obtain ⟨hP, hD, hK⟩ := Bw.go (ws' := [(arI rM_fresher kM_fresher 8 f_6180), (arI rM_fresh kM_fresh 287 f_6193), (arI rM_read kM_read 90 f_6194), (oc7 oM iM_thrown rM_tape iM_taped iM_size x_6305 x_6306 x_6307 x_6308 x_6309 x_6302 x_6303 iM_trouble rM_letters x_6304 iM_hasCourt rM_r rM_fresh rM_told rM_read rM_st rM_undone rM_kept iM_undos iM_images rM_fresher x_6178 iM_scale iM_night rM_heardRow rM_cutRow iM_breaths iM_cutMany iM_allBreaths rM_trial rM_words iM_fewestBreaths iM_orderMany iM_orderSum iM_leastOrder rM_often iM_setMany iM_someOf iM_allOf iM_allWeight iM_enoughWeight iM_worthSum iM_firstRest iM_leastDrawn), (arI rM_tape kM_tape 900 fM_tape), (arI rM_letters kM_letters 8 f_6310)]) (tys' := [(kM_fresher, .int), (kM_fresh, .int), (kM_read, .int), (kM_tape, .int), (kM_letters, .int)]) hB rfl ht hvm hP hD hK [5, 0, 2] [1, 3, 4] rfl (by decide) (by decide) [1, 3, 4] hk1 hFc rfl rfl rfl
                      clear hz1 hk1 hvm ht hB
                      have hG := hG.trans (un6_eq e_x_6305_3)
                      clear hi6_n_6195
                      clear hi8_n_6195
                      refine lv_iload_n hx hb dX7_innerLine_114 rfl (lv_at hl 6 rfl) ?_
                      refine lv_iconst (v := 3) hx hb dX7_innerLine_115 (by decide) ?_
                      refine lv_icmp_ne (tgt := 129) hx hb dX7_innerLine_116 (by decide) (fun c_6311 => ?_) (fun c_6311 => ?_)
                      · skip
                        have hG := hG.trans (if_neg c_6311)
                        have gc_6311 := ti_ne c_6311 rfl kc_3
                        replace gc_6311 : p0.toInt + (-2) ≤ 0 := by omega
                        clear hic
                        refine lv_iconst (v := 0) hx hb dX7_innerLine_129 (by decide) ?_
                        refine lv_istore (lv' := [(6, .int 0), (5, .int x_6217), (4, .int z_6183), (3, .int z_6182), (2, .int x_6181), (0, .ref oM), (1, .int p0)]) hx hb dX7_innerLine_130 hl (by decide) rfl (fun ls hl => ?_)
                        refine lv_aload_n hx hb dX7_innerLine_132 rfl (lv_at hl 5 rfl) ?_
                        refine va_get (D := (dC, dI)) (ci := 7) (v := .int x_6304) (C := RX7) (T := TX7) (N := 48) hx hb hts inX7 hown hK hP 3 rfl rfl 13 (by decide) (hts _ wd_380) (fun _ h9 => h9) rfl dX7_innerLine_133 ?_
                        refine lv_if_eq (tgt := 140) hx hb dX7_innerLine_136 (by decide) (fun c_6312 => ?_) (fun c_6312 => ?_)
                        · skip
                          have hG := hG.trans (if_pos c_6312)
                          have gc_6312 := ti_eq c_6312 rfl kc_0
                          exfalso; clear hG; omega
                        · skip
                          have hG := hG.trans (if_neg c_6312)
                          have gc_6312 := ti_ne c_6312 rfl kc_0
                          replace gc_6312 : (-1) * x_6304.toInt + 1 ≤ 0 := by omega
                          exact W.vret hx hb hr (fun t ht hW => ⟨⟨0, rfl, trivial, ⟨x_6305, x_6306, x_6307, x_6308, x_6309, x_6302, x_6303, x_6304, x_6178, f_6310, f_6193, f_6194, f_6180, b_x_6306, b_x_6309, b_x_6304, (by first | assumption | (have q0 := kc_0; have q1 := kc_1; omega)), e_x_6305_1, (by first | assumption | (have q0 := kc_0; have q1 := kc_1; omega)), (fun h9 => by have q0 := kc_0; have q1 := kc_1; omega), (by first | assumption | (have q0 := kc_0; have q1 := kc_1; omega)), hG, Bw.to (hP.sub [3, 4, 5, 1, 2, 0] rfl) (hD.sub [3, 4, 5, 1, 2, 0] (by decide) rfl) (hK.sub [3, 4, 1, 2, 0] rfl) ht hW⟩⟩, hS.F ht⟩) hS.2.2 dX7_innerLine_139
                      · skip
                        have hG := hG.trans (if_pos c_6311)
                        have gc_6311 := ti_eq c_6311 rfl kc_3
                        have h_6313 := hic (by omega)
                        clear hic
                        refine lv_aload_n hx hb dX7_innerLine_119 rfl (lv_at hl 5 rfl) ?_
                        refine lv_iconst (v := 1) hx hb dX7_innerLine_120 (by decide) ?_
                        refine lv_bipush (v := 9) hx hb dX7_innerLine_121 (by decide) ?_
                        have hFc := va_free (wc := [(oc7 oM iM_thrown rM_tape iM_taped iM_size x_6305 x_6306 x_6307 x_6308 x_6309 x_6302 x_6303 iM_trouble rM_letters x_6304 iM_hasCourt rM_r rM_fresh rM_told rM_read rM_st rM_undone rM_kept iM_undos iM_images rM_fresher x_6178 iM_scale iM_night rM_heardRow rM_cutRow iM_breaths iM_cutMany iM_allBreaths rM_trial rM_words iM_fewestBreaths iM_orderMany iM_orderSum iM_leastOrder rM_often iM_setMany iM_someOf iM_allOf iM_allWeight iM_enoughWeight iM_worthSum iM_firstRest iM_leastDrawn), (arI rM_tape kM_tape 900 fM_tape), (arI rM_letters kM_letters 8 f_6310)]) hD hS hA [3, 4, 5] rfl
                        refine va_calli (va_runV (As := [.int 1, .int 9]) (rest := []) ⟨hx, hb, hml, hown, hts⟩ (tX7_number l dC dI _ oM iM_thrown rM_tape fM_tape kM_tape iM_taped iM_size x_6305 x_6306 x_6307 x_6308 x_6309 x_6302 x_6303 iM_trouble rM_letters f_6310 kM_letters x_6304 iM_hasCourt rM_r rM_fresh rM_told rM_read rM_st rM_undone rM_kept iM_undos iM_images rM_fresher x_6178 iM_scale iM_night rM_heardRow rM_cutRow iM_breaths iM_cutMany iM_allBreaths rM_trial rM_words iM_fewestBreaths iM_orderMany iM_orderSum iM_leastOrder rM_often iM_setMany iM_someOf iM_allOf iM_allWeight iM_enoughWeight iM_worthSum iM_firstRest iM_leastDrawn 1 9 (by first | omega | decide) (by first | omega | decide) (by first | exact b_x_6306 | omega | decide) (by first | exact b_x_6309 | omega | decide) (by first | exact b_x_6304 | omega | decide) (by first | omega | decide) (by first | omega | decide) (by first | omega | decide) (by first | omega | decide) (by first | omega | decide) (by first | omega | decide) (by first | assumption | exact (fun h9 => by have q0 := kc_0; have q1 := kc_1; omega)) (by first | omega | decide | assumption | (have q0 := kc_0; have q1 := kc_1; have q2 := kc_9; omega) | (intro h; exact absurd h (by decide)))) (cwV 2 hts (wd_V wd_446 wd_447 wd_448 wd_5 (wd_c wd_449)) rfl rfl rfl (by decide +kernel) ⟨Nat.le_of_ble_eq_true rfl, Nat.le_of_ble_eq_true rfl⟩) ⟨Pw.fb, va_recv hK hP (ci := 7) (q0 := 3) rfl rfl, fun U hU hW => Pw.to (hP.sub [3, 4, 5] rfl) (hD.sub [3, 4, 5] (by decide) rfl) (hK.sub [3, 4] rfl) hE hS hFc hU hW⟩ rfl rfl hl.1 rfl (lv_room (Nat.le_of_ble_eq_true rfl)) dX7_innerLine_123 ⟨Nat.le_of_ble_eq_true rfl, Nat.le_of_ble_eq_true rfl⟩) hS (fun q _ h => hFc q h) hFc (fun r u t H locs ht hvm hw hB hz1 hk1 hS => ?_)
                        have hru9 := hw.2
                        have hw := hw.1
                        obtain ⟨x_6314, x_6315, x_6316, x_6317, x_6318, x_6319, x_6320, x_6321, f_6322, b_x_6315, b_x_6318, b_x_6321, e_x_6314_0, e_x_6314_1, e_x_6314_2, e_x_6314_3, e_x_6314_4, hB⟩ := hB
                        obtain ⟨hP, hD, hK⟩ := Bw.go (ws' := [(arI rM_fresher kM_fresher 8 f_6180), (arI rM_fresh kM_fresh 287 f_6193), (arI rM_read kM_read 90 f_6194), (oc7 oM iM_thrown rM_tape iM_taped iM_size x_6314 x_6315 x_6316 x_6317 x_6318 x_6319 x_6320 iM_trouble rM_letters x_6321 iM_hasCourt rM_r rM_fresh rM_told rM_read rM_st rM_undone rM_kept iM_undos iM_images rM_fresher x_6178 iM_scale iM_night rM_heardRow rM_cutRow iM_breaths iM_cutMany iM_allBreaths rM_trial rM_words iM_fewestBreaths iM_orderMany iM_orderSum iM_leastOrder rM_often iM_setMany iM_someOf iM_allOf iM_allWeight iM_enoughWeight iM_worthSum iM_firstRest iM_leastDrawn), (arI rM_tape kM_tape 900 fM_tape), (arI rM_letters kM_letters 8 f_6322)]) (tys' := [(kM_fresher, .int), (kM_fresh, .int), (kM_read, .int), (kM_tape, .int), (kM_letters, .int)]) hB rfl ht hvm hP hD hK [3, 4, 5] [0, 1, 2] rfl (by decide) (by decide) [0, 1, 2] hk1 hFc rfl rfl rfl
                        clear hz1 hk1 hvm ht hB
                        rw [← hru9] at e_x_6314_4
                        obtain ⟨x_6323, rfl⟩ : ∃ z, z = r := ⟨_, rfl⟩
                        have hG := hG.trans (un10_eq e_x_6314_4)
                        have lx_6323 := hw.2
                        have kl_1 := kc_1
                        have kl_9 := kc_9
                        clear e_x_6305_1
                        clear e_x_6305_2
                        refine lv_goto (tgt := 130) hx hb dX7_innerLine_126 (by decide) ?_
                        refine lv_istore (lv' := [(6, .int x_6323), (5, .int x_6217), (4, .int z_6183), (3, .int z_6182), (2, .int x_6181), (0, .ref oM), (1, .int p0)]) hx hb dX7_innerLine_130 hl (by decide) rfl (fun ls hl => ?_)
                        refine lv_aload_n hx hb dX7_innerLine_132 rfl (lv_at hl 5 rfl) ?_
                        refine va_get (D := (dC, dI)) (ci := 7) (v := .int x_6321) (C := RX7) (T := TX7) (N := 48) hx hb hts inX7 hown hK hP 3 rfl rfl 13 (by decide) (hts _ wd_380) (fun _ h9 => h9) rfl dX7_innerLine_133 ?_
                        refine lv_if_eq (tgt := 140) hx hb dX7_innerLine_136 (by decide) (fun c_6324 => ?_) (fun c_6324 => ?_)
                        · skip
                          have hG := hG.trans (if_pos c_6324)
                          have gc_6324 := ti_eq c_6324 rfl kc_0
                          exfalso; clear hG; omega
                        · skip
                          have hG := hG.trans (if_neg c_6324)
                          have gc_6324 := ti_ne c_6324 rfl kc_0
                          replace gc_6324 : (-1) * x_6321.toInt + 1 ≤ 0 := by omega
                          exact W.vret hx hb hr (fun t ht hW => ⟨⟨0, rfl, trivial, ⟨x_6314, x_6315, x_6316, x_6317, x_6318, x_6319, x_6320, x_6321, x_6178, f_6322, f_6193, f_6194, f_6180, b_x_6315, b_x_6318, b_x_6321, (by first | assumption | (have q0 := kc_0; have q1 := kc_1; omega)), e_x_6314_1, (by first | assumption | (have q0 := kc_0; have q1 := kc_1; omega)), (fun h9 => by have q0 := kc_0; have q1 := kc_1; omega), (by first | assumption | (have q0 := kc_0; have q1 := kc_1; omega)), hG, Bw.to (hP.sub [3, 4, 5, 1, 2, 0] rfl) (hD.sub [3, 4, 5, 1, 2, 0] (by decide) rfl) (hK.sub [3, 4, 1, 2, 0] rfl) ht hW⟩⟩, hS.F ht⟩) hS.2.2 dX7_innerLine_139
                · skip
                  have hG := hG.trans (if_neg c_6223)
                  have gc_6223 := ti_nle c_6223 rfl rfl
                  refine lv_aload_n hx hb dX7_innerLine_51 rfl (lv_at hl 5 rfl) ?_
                  refine va_get (D := (dC, dI)) (ci := 7) (v := .int z_6219) (C := RX7) (T := TX7) (N := 48) hx hb hts inX7 hown hK hP 2 rfl rfl 13 (by decide) (hts _ wd_380) (fun _ h9 => h9) rfl dX7_innerLine_52 ?_
                  refine lv_if_ne (tgt := 83) hx hb dX7_innerLine_55 (by decide) (fun c_6325 => ?_) (fun c_6325 => ?_)
                  · skip
                    have hG := hG.trans (if_neg c_6325)
                    have gc_6325 := ti_ne c_6325 rfl kc_0
                    replace gc_6325 : (-1) * z_6219.toInt + 1 ≤ 0 := by omega
                    obtain ⟨x_6326, ex_6326⟩ : ∃ z : Int32, z = z_6218 + Int32.ofInt 1 := ⟨_, rfl⟩
                    have hG := hG.trans (lt_eq ex_6326)
                    have vx_6326 : x_6326.toInt = z_6218.toInt + 1 := by have q := ti_add (y := 1) ex_6326 rfl kc_1 (by omega) (by omega); omega
                    refine lv_iinc (v := x_6326) (lv' := [(6, .int x_6326), (5, .int x_6217), (4, .int z_6183), (3, .int z_6182), (2, .int x_6181), (0, .ref oM), (1, .int p0)]) hx hb dX7_innerLine_83 hl (k := 0) rfl ex_6326.symm (by decide) rfl (fun ls hl => ?_)
                    refine lv_goto (tgt := 45) hx hb dX7_innerLine_86 (by decide) ?_
                    exact ih_n_6222 x_6326 z_6219 z_6220 z_6221 _ _ _ b_z_6219 (by first | omega | decide | assumption) (by first | omega | decide | assumption) (show NeI _ _ _ _ _ from fun h9 i9 hi9 => by by_cases e9 : i9 = z_6218.toNatClampNeg; (rw [e9]; omega); exact hi2_n_6222 (by omega) i9 (by have q1 := ti_cl (x := x_6326) vx_6326 (by omega); have q2 := ti_cl (x := z_6218) rfl (by omega); omega)) (by omega) hG (hP.sub [0, 1, 2, 3, 4, 5] rfl) (hD.sub [0, 1, 2, 3, 4, 5] (by decide) rfl) hS (lv_sub hl [0, 1, 2, 3, 4, 5, 6] rfl)
                  · skip
                    have hG := hG.trans (if_pos c_6325)
                    have gc_6325 := ti_eq c_6325 rfl kc_0
                    have h_6327 := e_x_6214_1 (by omega)
                    clear e_x_6214_1
                    have h_6328 := lx_6217.2.1 (by omega)
                    refine lv_aload_n hx hb dX7_innerLine_58 rfl (lv_at hl 5 rfl) ?_
                    refine va_get (D := (dC, dI)) (ci := 7) (v := .ref rM_read) (C := RX7) (T := TX7) (N := 48) hx hb hts inX7 hown hK hP 2 rfl rfl 18 (by decide) (hts _ wd_158) (fun _ h9 => h9) rfl dX7_innerLine_59 ?_
                    refine lv_iconst (v := 4) hx hb dX7_innerLine_62 (by decide) ?_
                    refine lv_iload_n hx hb dX7_innerLine_63 rfl (lv_at hl 4 rfl) ?_
                    refine lv_imul hx hb dX7_innerLine_64 ?_
                    refine lv_topi (fun x_6329 ex_6329 => ?_)
                    have hG := hG.trans (lt_eq ex_6329)
                    have vx_6329 : x_6329.toInt = 4 * x_6181.toInt := by have q := ti_mul ex_6329 kc_4 rfl (by omega) (by omega); omega
                    refine lv_iload hx hb dX7_innerLine_65 (lv_at hl 0 rfl) ?_
                    refine lv_iadd hx hb dX7_innerLine_67 ?_
                    refine lv_topi (fun x_6330 ex_6330 => ?_)
                    have hG := hG.trans (lt_eq ex_6330)
                    have vx_6330 : x_6330.toInt = 4 * x_6181.toInt + z_6218.toInt := by have q := ti_add ex_6330 vx_6329 rfl (by omega) (by omega); omega
                    refine va_iald hx hb hK hP 5 4 rfl rfl (ti_in vx_6330 (by omega) (by omega)) dX7_innerLine_68 ?_
                    refine lv_topi (fun x_6331 ex_6331 => ?_)
                    have hG := hG.trans (lt_eq ex_6331)
                    have kx_6331 : (f_6194 x_6330.toNatClampNeg).toInt = x_6331.toInt := by rw [ex_6331]
                    have cx_6331 : (f_6194 (4 * x_6181.toNatClampNeg + z_6218.toNatClampNeg)).toInt = x_6331.toInt := by rw [show 4 * x_6181.toNatClampNeg + z_6218.toNatClampNeg = x_6330.toNatClampNeg from by have q9 := ti_cl (x := x_6330) vx_6330 (by omega); have q_x_6181 := ti_cl (x := x_6181) rfl (by omega); have q_z_6218 := ti_cl (x := z_6218) rfl (by omega); omega]; exact kx_6331
                    refine lv_iload hx hb dX7_innerLine_69 (lv_at hl 1 rfl) ?_
                    refine lv_icmp_ne (tgt := 83) hx hb dX7_innerLine_71 (by decide) (fun c_6332 => ?_) (fun c_6332 => ?_)
                    · skip
                      have hG := hG.trans (if_neg c_6332)
                      have gc_6332 := ti_ne c_6332 rfl rfl
                      obtain ⟨x_6333, ex_6333⟩ : ∃ z : Int32, z = z_6218 + Int32.ofInt 1 := ⟨_, rfl⟩
                      have hG := hG.trans (lt_eq ex_6333)
                      have vx_6333 : x_6333.toInt = z_6218.toInt + 1 := by have q := ti_add (y := 1) ex_6333 rfl kc_1 (by omega) (by omega); omega
                      refine lv_iinc (v := x_6333) (lv' := [(6, .int x_6333), (5, .int x_6217), (4, .int z_6183), (3, .int z_6182), (2, .int x_6181), (0, .ref oM), (1, .int p0)]) hx hb dX7_innerLine_83 hl (k := 0) rfl ex_6333.symm (by decide) rfl (fun ls hl => ?_)
                      refine lv_goto (tgt := 45) hx hb dX7_innerLine_86 (by decide) ?_
                      exact ih_n_6222 x_6333 z_6219 z_6220 z_6221 _ _ _ b_z_6219 (by first | omega | decide | assumption) (by first | omega | decide | assumption) (show NeI _ _ _ _ _ from fun h9 i9 hi9 => by by_cases e9 : i9 = z_6218.toNatClampNeg; (rw [e9]; omega); exact hi2_n_6222 (by omega) i9 (by have q1 := ti_cl (x := x_6333) vx_6333 (by omega); have q2 := ti_cl (x := z_6218) rfl (by omega); omega)) (by omega) hG (hP.sub [0, 1, 2, 3, 4, 5] rfl) (hD.sub [0, 1, 2, 3, 4, 5] (by decide) rfl) hS (lv_sub hl [0, 1, 2, 3, 4, 5, 6] rfl)
                    · skip
                      have hG := hG.trans (if_pos c_6332)
                      have gc_6332 := ti_eq c_6332 rfl rfl
                      refine lv_aload_n hx hb dX7_innerLine_74 rfl (lv_at hl 5 rfl) ?_
                      refine lv_iconst (v := 3) hx hb dX7_innerLine_75 (by decide) ?_
                      refine lv_aload_n hx hb dX7_innerLine_76 rfl (lv_at hl 5 rfl) ?_
                      refine va_get (D := (dC, dI)) (ci := 7) (v := .int z_6184) (C := RX7) (T := TX7) (N := 48) hx hb hts inX7 hown hK hP 2 rfl rfl 4 (by decide) (hts _ wd_384) (fun _ h9 => h9) rfl dX7_innerLine_77 ?_
                      have hFc := va_free (wc := [(oc7 oM iM_thrown rM_tape iM_taped iM_size z_6184 z_6185 z_6186 z_6187 z_6188 z_6220 z_6221 iM_trouble rM_letters z_6219 iM_hasCourt rM_r rM_fresh rM_told rM_read rM_st rM_undone rM_kept iM_undos iM_images rM_fresher x_6178 iM_scale iM_night rM_heardRow rM_cutRow iM_breaths iM_cutMany iM_allBreaths rM_trial rM_words iM_fewestBreaths iM_orderMany iM_orderSum iM_leastOrder rM_often iM_setMany iM_someOf iM_allOf iM_allWeight iM_enoughWeight iM_worthSum iM_firstRest iM_leastDrawn)]) hD hS hA [2] rfl
                      refine va_callv (va_runV (As := [.int 3, .int z_6184]) (rest := []) ⟨hx, hb, hml, hown, hts⟩ (tX7_wrong l dC dI _ oM iM_thrown rM_tape iM_taped iM_size z_6184 z_6185 z_6186 z_6187 z_6188 z_6220 z_6221 iM_trouble rM_letters z_6219 iM_hasCourt rM_r rM_fresh rM_told rM_read rM_st rM_undone rM_kept iM_undos iM_images rM_fresher x_6178 iM_scale iM_night rM_heardRow rM_cutRow iM_breaths iM_cutMany iM_allBreaths rM_trial rM_words iM_fewestBreaths iM_orderMany iM_orderSum iM_leastOrder rM_often iM_setMany iM_someOf iM_allOf iM_allWeight iM_enoughWeight iM_worthSum iM_firstRest iM_leastDrawn 3 z_6184 (by first | omega | decide) (by first | omega | decide) (by first | exact b_z_6185 | omega | decide) (by first | exact b_z_6188 | omega | decide) (by first | exact b_z_6219 | omega | decide) (by first | omega | decide) (by first | omega | decide) (by first | omega | decide) (by first | omega | decide) (by first | omega | decide) (by first | omega | decide) (by first | assumption | exact (fun h9 => by have q0 := kc_0; have q1 := kc_1; omega))) (cwV 2 hts (wd_V wd_430 wd_431 wd_432 wd_5 (wd_c wd_433)) rfl rfl rfl (by decide +kernel) ⟨Nat.le_of_ble_eq_true rfl, Nat.le_of_ble_eq_true rfl⟩) ⟨Pw.fb, va_recv hK hP (ci := 7) (q0 := 2) rfl rfl, fun U hU hW => Pw.to (hP.sub [2] rfl) (hD.sub [2] (by decide) rfl) (hK.sub [] rfl) hE hS hFc hU hW⟩ rfl rfl hl.1 rfl (lv_room (Nat.le_of_ble_eq_true rfl)) dX7_innerLine_80 ⟨Nat.le_of_ble_eq_true rfl, Nat.le_of_ble_eq_true rfl⟩) hS (fun q _ h => hFc q h) hFc (fun u t H locs ht hvm hw hB hz1 hk1 hS => ?_)
                      obtain ⟨x_6334, x_6335, x_6336, b_x_6336, e_x_6334_0, e_x_6334_1, hB⟩ := hB
                      obtain ⟨hP, hD, hK⟩ := Bw.go (ws' := [(arI rM_tape kM_tape 900 fM_tape), (arI rM_fresher kM_fresher 8 f_6180), (arI rM_letters kM_letters 8 f_6192), (arI rM_fresh kM_fresh 287 f_6193), (arI rM_read kM_read 90 f_6194), (oc7 oM iM_thrown rM_tape iM_taped iM_size z_6184 z_6185 z_6186 z_6187 z_6188 x_6334 x_6335 iM_trouble rM_letters x_6336 iM_hasCourt rM_r rM_fresh rM_told rM_read rM_st rM_undone rM_kept iM_undos iM_images rM_fresher x_6178 iM_scale iM_night rM_heardRow rM_cutRow iM_breaths iM_cutMany iM_allBreaths rM_trial rM_words iM_fewestBreaths iM_orderMany iM_orderSum iM_leastOrder rM_often iM_setMany iM_someOf iM_allOf iM_allWeight iM_enoughWeight iM_worthSum iM_firstRest iM_leastDrawn)]) (tys' := [(kM_tape, .int), (kM_fresher, .int), (kM_letters, .int), (kM_fresh, .int), (kM_read, .int)]) hB rfl ht hvm hP hD hK [2] [0, 1, 3, 4, 5] rfl (by decide) (by decide) [0, 1, 2, 3, 4] hk1 hFc rfl rfl rfl
                      clear hz1 hk1 hvm ht hB
                      have hG := hG.trans (un3_eq e_x_6334_1)
                      obtain ⟨x_6337, ex_6337⟩ : ∃ z : Int32, z = z_6218 + Int32.ofInt 1 := ⟨_, rfl⟩
                      have hG := hG.trans (lt_eq ex_6337)
                      have vx_6337 : x_6337.toInt = z_6218.toInt + 1 := by have q := ti_add (y := 1) ex_6337 rfl kc_1 (by omega) (by omega); omega
                      refine lv_iinc (v := x_6337) (lv' := [(6, .int x_6337), (5, .int x_6217), (4, .int z_6183), (3, .int z_6182), (2, .int x_6181), (0, .ref oM), (1, .int p0)]) hx hb dX7_innerLine_83 hl (k := 0) rfl ex_6337.symm (by decide) rfl (fun ls hl => ?_)
                      refine lv_goto (tgt := 45) hx hb dX7_innerLine_86 (by decide) ?_
                      exact ih_n_6222 x_6337 x_6336 x_6334 x_6335 _ _ _ b_x_6336 (by first | omega | decide | assumption) (by first | omega | decide | assumption) (show NeI _ _ _ _ _ from fun h9 i9 hi9 => by by_cases e9 : i9 = z_6218.toNatClampNeg; (rw [e9]; omega); exact hi2_n_6222 (by omega) i9 (by have q1 := ti_cl (x := x_6337) vx_6337 (by omega); have q2 := ti_cl (x := z_6218) rfl (by omega); omega)) (by omega) hG (hP.sub [0, 1, 5, 2, 3, 4] rfl) (hD.sub [0, 1, 5, 2, 3, 4] (by decide) rfl) hS (lv_sub hl [0, 1, 2, 3, 4, 5, 6] rfl)
            exact key_n_6222 (((z_6182.toInt - (0 : Int32).toInt).toNat) + 1) 0 x_6216 x_6214 x_6215 _ _ _ b_x_6216 (by first | omega | decide | assumption | (have q0 := kc_0; have q1 := kc_1; omega)) (by first | omega | decide | assumption | (have q0 := kc_0; have q1 := kc_1; omega)) (show NeI _ _ _ _ _ from fun _ i9 hi9 => absurd hi9 (Nat.not_lt_zero i9)) (by omega) hG hP hD hS hl
    exact key_n_6195 (((4 - (0 : Int32).toInt).toNat) + 1) 0 1 x_6170 x_6171 x_6172 x_6173 x_6174 x_6175 x_6176 x_6177 f_6179 fM_fresh fM_read _ _ _ b_x_6171 b_x_6174 b_x_6177 (by first | omega | decide | assumption | (have q0 := kc_0; have q1 := kc_1; omega)) (by first | omega | decide | assumption | (have q0 := kc_0; have q1 := kc_1; omega)) (by assumption) in_zero ⟨rfl, rfl, rfl⟩ (fun h9 => by have q0 := kc_0; have q1 := kc_1; omega) e_x_6170_1 (by first | omega | decide | assumption | (have q0 := kc_0; have q1 := kc_1; omega)) (fun h9 => by have q0 := kc_0; have q1 := kc_1; have q9 := e_x_6170_3 (by omega); omega) (by omega) hG hP hD hS hl
  · skip
    have hG := hG.trans (if_neg c_6168)
    have gc_6168 := ti_ne c_6168 rfl kc_0
    replace gc_6168 : (-1) * iM_failed.toInt + 1 ≤ 0 := by omega
    clear hil
    clear hic
    exact W.vret hx hb hr (fun t ht hW => ⟨⟨0, rfl, trivial, ⟨iM_at, iM_end, iM_token, iM_whole, iM_nameSize, iM_fault, iM_place, iM_failed, iM_fresherSize, fM_letters, fM_fresh, fM_read, fM_fresher, (by omega), (by omega), (by omega), (by first | assumption | (have q0 := kc_0; have q1 := kc_1; omega)), r_T, (by first | assumption | (have q0 := kc_0; have q1 := kc_1; omega)), (fun h9 => by have q0 := kc_0; have q1 := kc_1; omega), (by first | assumption | (have q0 := kc_0; have q1 := kc_1; omega)), hG, Bw.to (hP.sub [0, 1, 2, 3, 4, 5] rfl) (hD.sub [0, 1, 2, 3, 4, 5] (by decide) rfl) (hK.sub [0, 1, 2, 3, 4] rfl) ht hW⟩⟩, hS.F ht⟩) hS.2.2 dX7_innerLine_7
