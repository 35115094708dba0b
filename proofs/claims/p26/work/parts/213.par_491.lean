set_option maxHeartbeats 4000000 in
set_option maxRecDepth 100000 in
theorem tX7_innerLine (l : Launch) (dC : Nat → ClassId) (dI : Nat → Nat → Nat) (sz : Nat) (oM : Nat) (iM_thrown : Int32) (rM_tape : Nat) (fM_tape : Nat → Int32) (kM_tape : ClassId) (iM_taped : Int32) (iM_size : Int32) (iM_at : Int32) (iM_end : Int32) (iM_token : Int32) (iM_whole : Int32) (iM_nameSize : Int32) (iM_fault : Int32) (iM_place : Int32) (iM_trouble : Int32) (rM_letters : Nat) (fM_letters : Nat → Int32) (kM_letters : ClassId) (iM_failed : Int32) (iM_hasCourt : Int32) (rM_r : Nat) (rM_fresh : Nat) (fM_fresh : Nat → Int32) (kM_fresh : ClassId) (rM_told : Nat) (rM_read : Nat) (fM_read : Nat → Int32) (kM_read : ClassId) (rM_st : Nat) (rM_undone : Nat) (rM_kept : Nat) (iM_undos : Int32) (iM_images : Int32) (rM_fresher : Nat) (fM_fresher : Nat → Int32) (kM_fresher : ClassId) (iM_fresherSize : Int32) (iM_scale : Int32) (iM_night : Int32) (rM_heardRow : Nat) (rM_cutRow : Nat) (iM_breaths : Int32) (iM_cutMany : Int32) (iM_allBreaths : Int32) (rM_trial : Nat) (rM_words : Nat) (iM_fewestBreaths : Int32) (iM_orderMany : Int32) (iM_orderSum : Int32) (iM_leastOrder : Int32) (rM_often : Nat) (iM_setMany : Int32) (iM_someOf : Int32) (iM_allOf : Int32) (iM_allWeight : Int64) (iM_enoughWeight : Int64) (iM_worthSum : Int64) (iM_firstRest : Int32) (iM_leastDrawn : Int32) (p0 : Int32) (b_iM_taped : 0 ≤ iM_taped.toInt ∧ iM_taped.toInt ≤ 900) (b_iM_size : 0 ≤ iM_size.toInt ∧ iM_size.toInt ≤ 900) (b_iM_end : 0 ≤ iM_end.toInt ∧ iM_end.toInt ≤ 900) (b_iM_nameSize : 0 ≤ iM_nameSize.toInt ∧ iM_nameSize.toInt ≤ 900) (b_iM_failed : 0 ≤ iM_failed.toInt ∧ iM_failed.toInt ≤ 1) (b_iM_hasCourt : 0 ≤ iM_hasCourt.toInt ∧ iM_hasCourt.toInt ≤ 1) (b_iM_undos : 0 ≤ iM_undos.toInt ∧ iM_undos.toInt ≤ 16) (b_iM_images : 0 ≤ iM_images.toInt ∧ iM_images.toInt ≤ 3) (b_iM_scale : 1 ≤ iM_scale.toInt ∧ iM_scale.toInt ≤ 1296) (b_iM_breaths : 0 ≤ iM_breaths.toInt ∧ iM_breaths.toInt ≤ 399) (b_iM_cutMany : 0 ≤ iM_cutMany.toInt ∧ iM_cutMany.toInt ≤ 399) (r_T : ImpP (iM_token.toInt = 2) (iM_nameSize.toInt ≤ 8)) (r_P : POk fM_fresh fM_read) (hp0 : 1 ≤ p0.toInt ∧ p0.toInt ≤ 3) (hil : ImpP (iM_failed.toInt ≤ 0) ((fM_fresh 7).toInt ≤ 7)) (hic : ImpP (iM_failed.toInt ≤ 0 ∧ p0.toInt = 3) ((fM_fresh 8).toInt ≤ 1)) : Met l yX7_innerLine (Cond.code yX7_innerLine cX7_innerLine 7 none :: wG) ({ frames := 7, cells := 0, slots := 0, locals := 175 }) (va_Pc [.ref oM, .int p0] (Pw dC dI sz [(oc7 oM iM_thrown rM_tape iM_taped iM_size iM_at iM_end iM_token iM_whole iM_nameSize iM_fault iM_place iM_trouble rM_letters iM_failed iM_hasCourt rM_r rM_fresh rM_told rM_read rM_st rM_undone rM_kept iM_undos iM_images rM_fresher iM_fresherSize iM_scale iM_night rM_heardRow rM_cutRow iM_breaths iM_cutMany iM_allBreaths rM_trial rM_words iM_fewestBreaths iM_orderMany iM_orderSum iM_leastOrder rM_often iM_setMany iM_someOf iM_allOf iM_allWeight iM_enoughWeight iM_worthSum iM_firstRest iM_leastDrawn), (arI rM_tape kM_tape 900 fM_tape), (arI rM_letters kM_letters 8 fM_letters), (arI rM_fresh kM_fresh 287 fM_fresh), (arI rM_read kM_read 90 fM_read), (arI rM_fresher kM_fresher 8 fM_fresher)] [(kM_tape, .int), (kM_letters, .int), (kM_fresh, .int), (kM_read, .int), (kM_fresher, .int)])) (va_Qv (fun (_ : Nat) => True) (fun (_ : Nat) (t : State) => ∃ (niM_at : Int32) (niM_end : Int32) (niM_token : Int32) (niM_whole : Int32) (niM_nameSize : Int32) (niM_fault : Int32) (niM_place : Int32) (niM_failed : Int32) (niM_fresherSize : Int32) (nfM_letters : Nat → Int32) (nfM_fresh : Nat → Int32) (nfM_read : Nat → Int32) (nfM_fresher : Nat → Int32), (0 ≤ niM_end.toInt ∧ niM_end.toInt ≤ 900) ∧ (0 ≤ niM_nameSize.toInt ∧ niM_nameSize.toInt ≤ 900) ∧ (0 ≤ niM_failed.toInt ∧ niM_failed.toInt ≤ 1) ∧ (iM_end.toInt ≤ niM_end.toInt) ∧ (ImpP (niM_token.toInt = 2) (niM_nameSize.toInt ≤ 8)) ∧ (iM_failed.toInt ≤ niM_failed.toInt) ∧ (ImpP (niM_failed.toInt ≤ 0 ∧ niM_token.toInt = 59 ) (iM_end.toInt + 1 ≤ niM_end.toInt)) ∧ (POk nfM_fresh nfM_read) ∧ (PX7_innerLine fM_tape iM_size iM_at iM_end iM_token iM_whole iM_nameSize iM_fault iM_place fM_letters iM_failed fM_fresh fM_read fM_fresher iM_fresherSize p0 = (niM_at, niM_end, niM_token, niM_whole, niM_nameSize, niM_fault, niM_place, niM_failed, niM_fresherSize, nfM_letters, nfM_fresh, nfM_read, nfM_fresher)) ∧ Bw dC dI (va_A [(oc7 oM iM_thrown rM_tape iM_taped iM_size iM_at iM_end iM_token iM_whole iM_nameSize iM_fault iM_place iM_trouble rM_letters iM_failed iM_hasCourt rM_r rM_fresh rM_told rM_read rM_st rM_undone rM_kept iM_undos iM_images rM_fresher iM_fresherSize iM_scale iM_night rM_heardRow rM_cutRow iM_breaths iM_cutMany iM_allBreaths rM_trial rM_words iM_fewestBreaths iM_orderMany iM_orderSum iM_leastOrder rM_often iM_setMany iM_someOf iM_allOf iM_allWeight iM_enoughWeight iM_worthSum iM_firstRest iM_leastDrawn), (arI rM_tape kM_tape 900 fM_tape), (arI rM_letters kM_letters 8 fM_letters), (arI rM_fresh kM_fresh 287 fM_fresh), (arI rM_read kM_read 90 fM_read), (arI rM_fresher kM_fresher 8 fM_fresher)] sz) [(oc7 oM iM_thrown rM_tape iM_taped iM_size niM_at niM_end niM_token niM_whole niM_nameSize niM_fault niM_place iM_trouble rM_letters niM_failed iM_hasCourt rM_r rM_fresh rM_told rM_read rM_st rM_undone rM_kept iM_undos iM_images rM_fresher niM_fresherSize iM_scale iM_night rM_heardRow rM_cutRow iM_breaths iM_cutMany iM_allBreaths rM_trial rM_words iM_fewestBreaths iM_orderMany iM_orderSum iM_leastOrder rM_often iM_setMany iM_someOf iM_allOf iM_allWeight iM_enoughWeight iM_worthSum iM_firstRest iM_leastDrawn), (arI rM_tape kM_tape 900 fM_tape), (arI rM_letters kM_letters 8 nfM_letters), (arI rM_fresh kM_fresh 287 nfM_fresh), (arI rM_read kM_read 90 nfM_read), (arI rM_fresher kM_fresher 8 nfM_fresher)] [(kM_tape, .int), (kM_letters, .int), (kM_fresh, .int), (kM_read, .int), (kM_fresher, .int)] t) (va_A [(oc7 oM iM_thrown rM_tape iM_taped iM_size iM_at iM_end iM_token iM_whole iM_nameSize iM_fault iM_place iM_trouble rM_letters iM_failed iM_hasCourt rM_r rM_fresh rM_told rM_read rM_st rM_undone rM_kept iM_undos iM_images rM_fresher iM_fresherSize iM_scale iM_night rM_heardRow rM_cutRow iM_breaths iM_cutMany iM_allBreaths rM_trial rM_words iM_fewestBreaths iM_orderMany iM_orderSum iM_leastOrder rM_often iM_setMany iM_someOf iM_allOf iM_allWeight iM_enoughWeight iM_worthSum iM_firstRest iM_leastDrawn), (arI rM_tape kM_tape 900 fM_tape), (arI rM_letters kM_letters 8 fM_letters), (arI rM_fresh kM_fresh 287 fM_fresh), (arI rM_read kM_read 90 fM_read), (arI rM_fresher kM_fresher 8 fM_fresher)] sz)) 0 0 (va_A [(oc7 oM iM_thrown rM_tape iM_taped iM_size iM_at iM_end iM_token iM_whole iM_nameSize iM_fault iM_place iM_trouble rM_letters iM_failed iM_hasCourt rM_r rM_fresh rM_told rM_read rM_st rM_undone rM_kept iM_undos iM_images rM_fresher iM_fresherSize iM_scale iM_night rM_heardRow rM_cutRow iM_breaths iM_cutMany iM_allBreaths rM_trial rM_words iM_fewestBreaths iM_orderMany iM_orderSum iM_leastOrder rM_often iM_setMany iM_someOf iM_allOf iM_allWeight iM_enoughWeight iM_worthSum iM_firstRest iM_leastDrawn), (arI rM_tape kM_tape 900 fM_tape), (arI rM_letters kM_letters 8 fM_letters), (arI rM_fresh kM_fresh 287 fM_fresh), (arI rM_read kM_read 90 fM_read), (arI rM_fresher kM_fresher 8 fM_fresher)] sz) := by
  refine Met.ofW (cc := cX7_innerLine) (maxL := 7) (ret := none) (by decide) rfl ?_
  intro p e s m args below meth c s₁ B hml hv
  obtain ⟨rfl, hsz, hP, hK, hD0, hE⟩ := hv
  have hx := B.exec
  have hb := B.bytes
  have hr := B.returns
  have hts : ∀ w ∈ wG, w.before ([.ref oM, .int p0] : List Value).toArray s = true := fun w h => atoms_spec (ws := Cond.code yX7_innerLine cX7_innerLine 7 none :: wG) B.pre w (List.mem_cons_of_mem _ h)
  have hown : s.vm.findClass RX7 = some m.cls := findClass_of_methodNamed B.named
  have hlocks := B.notSynchronized
  subst hsz
  have hD := hD0.self (sz := s.heap.size)
  generalize hAe : va_A [(oc7 oM iM_thrown rM_tape iM_taped iM_size iM_at iM_end iM_token iM_whole iM_nameSize iM_fault iM_place iM_trouble rM_letters iM_failed iM_hasCourt rM_r rM_fresh rM_told rM_read rM_st rM_undone rM_kept iM_undos iM_images rM_fresher iM_fresherSize iM_scale iM_night rM_heardRow rM_cutRow iM_breaths iM_cutMany iM_allBreaths rM_trial rM_words iM_fewestBreaths iM_orderMany iM_orderSum iM_leastOrder rM_often iM_setMany iM_someOf iM_allOf iM_allWeight iM_enoughWeight iM_worthSum iM_firstRest iM_leastDrawn), (arI rM_tape kM_tape 900 fM_tape), (arI rM_letters kM_letters 8 fM_letters), (arI rM_fresh kM_fresh 287 fM_fresh), (arI rM_read kM_read 90 fM_read), (arI rM_fresher kM_fresher 8 fM_fresher)] s.heap.size = A at hD hE ⊢
  have hA : ∀ q : Nat, s.heap.size ≤ q → A q := fun q h => by rw [← hAe]; exact Or.inr h
  have hS : va_S A s.heap s.heap [] := va_S.rf
  have hl := lv_entry ([.ref oM, .int p0]) (n := 7) (Nat.le_of_ble_eq_true rfl)
  rw [lg_entry_eq]
  generalize (lg_sl ([.ref oM, .int p0]) ++ List.replicate (7 - (lg_sl ([.ref oM, .int p0])).length) Slot.unset).toArray = ls at hl ⊢
  have hl : lv_has ls 7 [(0, .ref oM), (1, .int p0)] := hl
  have hG := PX7_innerLine_eq fM_tape iM_size iM_at iM_end iM_token iM_whole iM_nameSize iM_fault iM_place fM_letters iM_failed fM_fresh fM_read fM_fresher iM_fresherSize p0
  have pl_fM_fresh := r_P.lins
  refine lv_aload_n hx hb dX7_innerLine_0 rfl (lv_at hl 0 rfl) ?_
  refine va_get (D := (dC, dI)) (ci := 7) (v := .int iM_failed) (C := RX7) (T := TX7) (N := 48) hx hb hts inX7 hown hK hP 0 rfl rfl 13 (by decide) (hts _ wd_380) (fun _ h9 => h9) rfl dX7_innerLine_1 ?_
  refine lv_if_eq (tgt := 8) hx hb dX7_innerLine_4 (by decide) (fun c_6177 => ?_) (fun c_6177 => ?_)
  · skip
    have hG := hG.trans (if_pos c_6177)
    have gc_6177 := ti_eq c_6177 rfl kc_0
    have h_6178 := hil (by omega)
    clear hil
    refine lv_aload_n hx hb dX7_innerLine_8 rfl (lv_at hl 0 rfl) ?_
    have hFc := va_free (wc := [(oc7 oM iM_thrown rM_tape iM_taped iM_size iM_at iM_end iM_token iM_whole iM_nameSize iM_fault iM_place iM_trouble rM_letters iM_failed iM_hasCourt rM_r rM_fresh rM_told rM_read rM_st rM_undone rM_kept iM_undos iM_images rM_fresher iM_fresherSize iM_scale iM_night rM_heardRow rM_cutRow iM_breaths iM_cutMany iM_allBreaths rM_trial rM_words iM_fewestBreaths iM_orderMany iM_orderSum iM_leastOrder rM_often iM_setMany iM_someOf iM_allOf iM_allWeight iM_enoughWeight iM_worthSum iM_firstRest iM_leastDrawn), (arI rM_tape kM_tape 900 fM_tape), (arI rM_letters kM_letters 8 fM_letters), (arI rM_fresh kM_fresh 287 fM_fresh), (arI rM_read kM_read 90 fM_read), (arI rM_fresher kM_fresher 8 fM_fresher)]) hD hS hA [0, 1, 2, 3, 4, 5] rfl
    refine va_callv (va_runV (As := []) (rest := []) ⟨hx, hb, hml, hown, hts⟩ (tX7_newName l dC dI _ oM iM_thrown rM_tape fM_tape kM_tape iM_taped iM_size iM_at iM_end iM_token iM_whole iM_nameSize iM_fault iM_place iM_trouble rM_letters fM_letters kM_letters iM_failed iM_hasCourt rM_r rM_fresh fM_fresh kM_fresh rM_told rM_read fM_read kM_read rM_st rM_undone rM_kept iM_undos iM_images rM_fresher fM_fresher kM_fresher iM_fresherSize iM_scale iM_night rM_heardRow rM_cutRow iM_breaths iM_cutMany iM_allBreaths rM_trial rM_words iM_fewestBreaths iM_orderMany iM_orderSum iM_leastOrder rM_often iM_setMany iM_someOf iM_allOf iM_allWeight iM_enoughWeight iM_worthSum iM_firstRest iM_leastDrawn (by first | omega | decide) (by first | omega | decide) (by first | omega | decide) (by first | omega | decide) (by first | omega | decide) (by first | omega | decide) (by first | omega | decide) (by first | omega | decide) (by first | omega | decide) (by first | omega | decide) (by first | omega | decide) (by first | assumption | exact (fun h9 => by have q0 := kc_0; have q1 := kc_1; omega)) (by assumption)) (cwV 0 hts (wd_V wd_462 wd_463 wd_464 wd_5 (wd_c wd_465)) rfl rfl rfl (by decide +kernel) ⟨Nat.le_of_ble_eq_true rfl, Nat.le_of_ble_eq_true rfl⟩) ⟨Pw.fb, va_recv hK hP (ci := 7) (q0 := 0) rfl rfl, fun U hU hW => Pw.to (hP.sub [0, 1, 2, 3, 4, 5] rfl) (hD.sub [0, 1, 2, 3, 4, 5] (by decide) rfl) (hK.sub [0, 1, 2, 3, 4] rfl) hE hS hFc hU hW⟩ rfl rfl hl.1 rfl (lv_room (Nat.le_of_ble_eq_true rfl)) dX7_innerLine_9 ⟨Nat.le_of_ble_eq_true rfl, Nat.le_of_ble_eq_true rfl⟩) hS (fun q _ h => hFc q h) hFc (fun u t H locs ht hvm hw hB hz1 hk1 hS => ?_)
    obtain ⟨x_6179, x_6180, x_6181, x_6182, x_6183, x_6184, x_6185, x_6186, x_6187, f_6188, f_6189, b_x_6180, b_x_6183, b_x_6186, e_x_6179_0, e_x_6179_1, e_x_6179_2, e_x_6179_3, e_x_6179_4, hB⟩ := hB
    obtain ⟨hP, hD, hK⟩ := Bw.go (ws' := [(oc7 oM iM_thrown rM_tape iM_taped iM_size x_6179 x_6180 x_6181 x_6182 x_6183 x_6184 x_6185 iM_trouble rM_letters x_6186 iM_hasCourt rM_r rM_fresh rM_told rM_read rM_st rM_undone rM_kept iM_undos iM_images rM_fresher x_6187 iM_scale iM_night rM_heardRow rM_cutRow iM_breaths iM_cutMany iM_allBreaths rM_trial rM_words iM_fewestBreaths iM_orderMany iM_orderSum iM_leastOrder rM_often iM_setMany iM_someOf iM_allOf iM_allWeight iM_enoughWeight iM_worthSum iM_firstRest iM_leastDrawn), (arI rM_tape kM_tape 900 fM_tape), (arI rM_letters kM_letters 8 f_6188), (arI rM_fresh kM_fresh 287 fM_fresh), (arI rM_read kM_read 90 fM_read), (arI rM_fresher kM_fresher 8 f_6189)]) (tys' := [(kM_tape, .int), (kM_letters, .int), (kM_fresh, .int), (kM_read, .int), (kM_fresher, .int)]) hB rfl ht hvm hP hD hK [0, 1, 2, 3, 4, 5] [] rfl (by decide) (by decide) [] hk1 hFc rfl rfl rfl
    clear hz1 hk1 hvm ht hB
    have hG := hG.trans (un11_eq e_x_6179_4)
    clear r_T
    refine lv_aload_n hx hb dX7_innerLine_12 rfl (lv_at hl 0 rfl) ?_
    refine va_get (D := (dC, dI)) (ci := 7) (v := .ref rM_fresh) (C := RX7) (T := TX7) (N := 48) hx hb hts inX7 hown hK hP 0 rfl rfl 16 (by decide) (hts _ wd_156) (fun _ h9 => h9) rfl dX7_innerLine_13 ?_
    refine lv_iconst (v := 1) hx hb dX7_innerLine_16 (by decide) ?_
    refine va_iald hx hb hK hP 3 2 rfl rfl (by unfold vp_in; decide) dX7_innerLine_17 ?_
    refine lv_topi (fun x_6190 ex_6190 => ?_)
    have hG := hG.trans (lt_eq ex_6190)
    have cx_6190 : (fM_fresh 1).toInt = x_6190.toInt := congrArg Int32.toInt (show fM_fresh 1 = x_6190 from ex_6190.symm)
    refine lv_istore_n (lv' := [(2, .int x_6190), (0, .ref oM), (1, .int p0)]) hx hb dX7_innerLine_18 rfl hl (by decide) rfl (fun ls hl => ?_)
    refine lv_iconst (v := 0) hx hb dX7_innerLine_19 (by decide) ?_
    refine lv_istore_n (lv' := [(3, .int 0), (2, .int x_6190), (0, .ref oM), (1, .int p0)]) hx hb dX7_innerLine_20 rfl hl (by decide) rfl (fun ls hl => ?_)
    refine lv_iconst (v := 1) hx hb dX7_innerLine_21 (by decide) ?_
    refine lv_istore (lv' := [(4, .int 1), (3, .int 0), (2, .int x_6190), (0, .ref oM), (1, .int p0)]) hx hb dX7_innerLine_22 hl (by decide) rfl (fun ls hl => ?_)
    have hl := lv_sub hl (l' := [(4, .int 1), (3, .int 0), (2, .int x_6190), (0, .ref oM), (1, .int p0)]) [0, 1, 2, 3, 4] rfl
    have key_n_6204 : ∀ (n_6204 : Nat) (z_6191 : Int32) (z_6192 : Int32) (z_6193 : Int32) (z_6194 : Int32) (z_6195 : Int32) (z_6196 : Int32) (z_6197 : Int32) (z_6198 : Int32) (z_6199 : Int32) (z_6200 : Int32) (f_6201 : Nat → Int32) (f_6202 : Nat → Int32) (f_6203 : Nat → Int32) (H : Heap) (locs : List Loc) (ls : Array Slot), (0 ≤ z_6194.toInt ∧ z_6194.toInt ≤ 900) → (0 ≤ z_6197.toInt ∧ z_6197.toInt ≤ 900) → (0 ≤ z_6200.toInt ∧ z_6200.toInt ≤ 1) → (0 ≤ z_6191.toInt ∧ z_6191.toInt ≤ 4) → (0 ≤ z_6192.toInt ∧ z_6192.toInt ≤ 1) → (POk f_6202 f_6203) → (InOk f_6202 f_6203 (f_6202 1).toNatClampNeg z_6191.toNatClampNeg p0.toInt) → ((f_6202 1).toInt = (fM_fresh 1).toInt ∧ (f_6202 7).toInt = (fM_fresh 7).toInt ∧ (f_6202 8).toInt = (fM_fresh 8).toInt) → (ImpP (z_6192.toInt ≤ 0) (1 ≤ z_6191.toInt)) → (ImpP (z_6195.toInt = 2) (z_6197.toInt ≤ 8)) → (iM_end.toInt ≤ z_6194.toInt) → (ImpP (z_6200.toInt ≤ 0 ∧ z_6195.toInt = 59 ) (iM_end.toInt + 1 ≤ z_6194.toInt)) → (4 - z_6191.toInt).toNat < n_6204 → (PX7_innerLine fM_tape iM_size iM_at iM_end iM_token iM_whole iM_nameSize iM_fault iM_place fM_letters iM_failed fM_fresh fM_read fM_fresher iM_fresherSize p0 = HX7_innerLine_0 fM_tape iM_size p0 x_6187 f_6189 x_6190 n_6204 z_6191 z_6192 z_6193 z_6194 z_6195 z_6196 z_6197 z_6198 z_6199 z_6200 f_6201 f_6202 f_6203) → va_P (dC, dI) vwCl [(oc7 oM iM_thrown rM_tape iM_taped iM_size z_6193 z_6194 z_6195 z_6196 z_6197 z_6198 z_6199 iM_trouble rM_letters z_6200 iM_hasCourt rM_r rM_fresh rM_told rM_read rM_st rM_undone rM_kept iM_undos iM_images rM_fresher x_6187 iM_scale iM_night rM_heardRow rM_cutRow iM_breaths iM_cutMany iM_allBreaths rM_trial rM_words iM_fewestBreaths iM_orderMany iM_orderSum iM_leastOrder rM_often iM_setMany iM_someOf iM_allOf iM_allWeight iM_enoughWeight iM_worthSum iM_firstRest iM_leastDrawn), (arI rM_tape kM_tape 900 fM_tape), (arI rM_letters kM_letters 8 f_6201), (arI rM_fresh kM_fresh 287 f_6202), (arI rM_read kM_read 90 f_6203), (arI rM_fresher kM_fresher 8 f_6189)] H → va_D A [(oc7 oM iM_thrown rM_tape iM_taped iM_size z_6193 z_6194 z_6195 z_6196 z_6197 z_6198 z_6199 iM_trouble rM_letters z_6200 iM_hasCourt rM_r rM_fresh rM_told rM_read rM_st rM_undone rM_kept iM_undos iM_images rM_fresher x_6187 iM_scale iM_night rM_heardRow rM_cutRow iM_breaths iM_cutMany iM_allBreaths rM_trial rM_words iM_fewestBreaths iM_orderMany iM_orderSum iM_leastOrder rM_often iM_setMany iM_someOf iM_allOf iM_allWeight iM_enoughWeight iM_worthSum iM_firstRest iM_leastDrawn), (arI rM_tape kM_tape 900 fM_tape), (arI rM_letters kM_letters 8 f_6201), (arI rM_fresh kM_fresh 287 f_6202), (arI rM_read kM_read 90 f_6203), (arI rM_fresher kM_fresher 8 f_6189)] → va_S A s.heap H locs → lv_has ls 7 [(4, .int z_6192), (3, .int z_6191), (2, .int x_6190), (0, .ref oM), (1, .int p0)] → W p l e (headSpec (Cond.code yX7_innerLine cX7_innerLine 7 none :: wG) ({ frames := 7, cells := 0, slots := 0, locals := 175 })).room s m ([.ref oM, .int p0] : List Value).toArray below meth c H locs 0 0 (MQ below (va_Qv (fun (_ : Nat) => True) (fun (_ : Nat) (t : State) => ∃ (niM_at : Int32) (niM_end : Int32) (niM_token : Int32) (niM_whole : Int32) (niM_nameSize : Int32) (niM_fault : Int32) (niM_place : Int32) (niM_failed : Int32) (niM_fresherSize : Int32) (nfM_letters : Nat → Int32) (nfM_fresh : Nat → Int32) (nfM_read : Nat → Int32) (nfM_fresher : Nat → Int32), (0 ≤ niM_end.toInt ∧ niM_end.toInt ≤ 900) ∧ (0 ≤ niM_nameSize.toInt ∧ niM_nameSize.toInt ≤ 900) ∧ (0 ≤ niM_failed.toInt ∧ niM_failed.toInt ≤ 1) ∧ (iM_end.toInt ≤ niM_end.toInt) ∧ (ImpP (niM_token.toInt = 2) (niM_nameSize.toInt ≤ 8)) ∧ (iM_failed.toInt ≤ niM_failed.toInt) ∧ (ImpP (niM_failed.toInt ≤ 0 ∧ niM_token.toInt = 59 ) (iM_end.toInt + 1 ≤ niM_end.toInt)) ∧ (POk nfM_fresh nfM_read) ∧ (PX7_innerLine fM_tape iM_size iM_at iM_end iM_token iM_whole iM_nameSize iM_fault iM_place fM_letters iM_failed fM_fresh fM_read fM_fresher iM_fresherSize p0 = (niM_at, niM_end, niM_token, niM_whole, niM_nameSize, niM_fault, niM_place, niM_failed, niM_fresherSize, nfM_letters, nfM_fresh, nfM_read, nfM_fresher)) ∧ Bw dC dI A [(oc7 oM iM_thrown rM_tape iM_taped iM_size niM_at niM_end niM_token niM_whole niM_nameSize niM_fault niM_place iM_trouble rM_letters niM_failed iM_hasCourt rM_r rM_fresh rM_told rM_read rM_st rM_undone rM_kept iM_undos iM_images rM_fresher niM_fresherSize iM_scale iM_night rM_heardRow rM_cutRow iM_breaths iM_cutMany iM_allBreaths rM_trial rM_words iM_fewestBreaths iM_orderMany iM_orderSum iM_leastOrder rM_often iM_setMany iM_someOf iM_allOf iM_allWeight iM_enoughWeight iM_worthSum iM_firstRest iM_leastDrawn), (arI rM_tape kM_tape 900 fM_tape), (arI rM_letters kM_letters 8 nfM_letters), (arI rM_fresh kM_fresh 287 nfM_fresh), (arI rM_read kM_read 90 nfM_read), (arI rM_fresher kM_fresher 8 nfM_fresher)] [(kM_tape, .int), (kM_letters, .int), (kM_fresh, .int), (kM_read, .int), (kM_fresher, .int)] t) A) ([.ref oM, .int p0] : List Value).toArray s 0 0 A) (F0 m 24 ls []) := by
      intro n_6204
      induction n_6204 with
      | zero => intro z_6191 z_6192 z_6193 z_6194 z_6195 z_6196 z_6197 z_6198 z_6199 z_6200 f_6201 f_6202 f_6203 H locs ls b_z_6194 b_z_6197 b_z_6200 hi0_n_6204 hi1_n_6204 hi2_n_6204 hi3_n_6204 hi4_n_6204 hi5_n_6204 hi6_n_6204 hi7_n_6204 hi8_n_6204 hm; exact absurd hm (by omega)
      | succ n_6204 ih_n_6204 =>
        intro z_6191 z_6192 z_6193 z_6194 z_6195 z_6196 z_6197 z_6198 z_6199 z_6200 f_6201 f_6202 f_6203 H locs ls b_z_6194 b_z_6197 b_z_6200 hi0_n_6204 hi1_n_6204 hi2_n_6204 hi3_n_6204 hi4_n_6204 hi5_n_6204 hi6_n_6204 hi7_n_6204 hi8_n_6204 hm hG hP hD hS hl
        have hG := hG.trans (HX7_innerLine_0_eq _ _ _ _ _ _ _ _ _ _ _ _ _ _ _ _ _ _ _ _)
        have pl_f_6202 := hi2_n_6204.lins
        refine lv_iload hx hb dX7_innerLine_24 (lv_at hl 0 rfl) ?_
        refine lv_if_eq (tgt := 198) hx hb dX7_innerLine_26 (by decide) (fun c_6205 => ?_) (fun c_6205 => ?_)
        · skip
          have hG := hG.trans (if_pos c_6205)
          have gc_6205 := ti_eq c_6205 rfl kc_0
          have h_6206 := hi5_n_6204 (by omega)
          clear hi5_n_6204
          refine lv_aload_n hx hb dX7_innerLine_198 rfl (lv_at hl 3 rfl) ?_
          refine va_get (D := (dC, dI)) (ci := 7) (v := .int z_6200) (C := RX7) (T := TX7) (N := 48) hx hb hts inX7 hown hK hP 0 rfl rfl 13 (by decide) (hts _ wd_380) (fun _ h9 => h9) rfl dX7_innerLine_199 ?_
          refine lv_if_eq (tgt := 206) hx hb dX7_innerLine_202 (by decide) (fun c_6207 => ?_) (fun c_6207 => ?_)
          · skip
            have hG := hG.trans (if_pos c_6207)
            have gc_6207 := ti_eq c_6207 rfl kc_0
            refine lv_aload_n hx hb dX7_innerLine_206 rfl (lv_at hl 3 rfl) ?_
            refine va_get (D := (dC, dI)) (ci := 7) (v := .ref rM_fresh) (C := RX7) (T := TX7) (N := 48) hx hb hts inX7 hown hK hP 0 rfl rfl 16 (by decide) (hts _ wd_156) (fun _ h9 => h9) rfl dX7_innerLine_207 ?_
            refine lv_bipush (v := 27) hx hb dX7_innerLine_210 (by decide) ?_
            refine lv_iload_n hx hb dX7_innerLine_212 rfl (lv_at hl 2 rfl) ?_
            refine lv_iadd hx hb dX7_innerLine_213 ?_
            refine lv_topi (fun x_6208 ex_6208 => ?_)
            have hG := hG.trans (lt_eq ex_6208)
            have vx_6208 : x_6208.toInt = x_6190.toInt + 27 := by have q := ti_add ex_6208 kc_27 rfl (by omega) (by omega); omega
            refine lv_iload_n hx hb dX7_innerLine_214 rfl (lv_at hl 1 rfl) ?_
            refine va_iast hx hb hK hP hD hS 3 2 rfl rfl (ti_in vx_6208 (by omega) (by omega)) dX7_innerLine_215 (fun H locs hP hD hS => ?_)
            obtain ⟨f_6209, ef_6209⟩ : ∃ g : Nat → Int32, g = upd f_6202 x_6208.toNatClampNeg z_6191 := ⟨_, rfl⟩
            rw [← ef_6209] at hP hD
            have hG := hG.trans (lt_eq ef_6209)
            obtain ⟨hP, hD⟩ := wl2 (ws' := [(oc7 oM iM_thrown rM_tape iM_taped iM_size z_6193 z_6194 z_6195 z_6196 z_6197 z_6198 z_6199 iM_trouble rM_letters z_6200 iM_hasCourt rM_r rM_fresh rM_told rM_read rM_st rM_undone rM_kept iM_undos iM_images rM_fresher x_6187 iM_scale iM_night rM_heardRow rM_cutRow iM_breaths iM_cutMany iM_allBreaths rM_trial rM_words iM_fewestBreaths iM_orderMany iM_orderSum iM_leastOrder rM_often iM_setMany iM_someOf iM_allOf iM_allWeight iM_enoughWeight iM_worthSum iM_firstRest iM_leastDrawn), (arI rM_tape kM_tape 900 fM_tape), (arI rM_letters kM_letters 8 f_6201), (arI rM_fresh kM_fresh 287 f_6209), (arI rM_read kM_read 90 f_6203), (arI rM_fresher kM_fresher 8 f_6189)]) hP hD rfl
            have o1_f_6209 : (f_6209 1).toInt = (f_6202 1).toInt := put_at ef_6209 (by have q9 := ti_cl (x := x_6208) vx_6208 (by omega); omega)
            have o7_f_6209 : (f_6209 7).toInt = (f_6202 7).toInt := put_at ef_6209 (by have q9 := ti_cl (x := x_6208) vx_6208 (by omega); omega)
            have o8_f_6209 : (f_6209 8).toInt = (f_6202 8).toInt := put_at ef_6209 (by have q9 := ti_cl (x := x_6208) vx_6208 (by omega); omega)
            refine lv_aload_n hx hb dX7_innerLine_216 rfl (lv_at hl 3 rfl) ?_
            refine lv_iload_n hx hb dX7_innerLine_217 rfl (lv_at hl 4 rfl) ?_
            have hFc := va_free (wc := [(oc7 oM iM_thrown rM_tape iM_taped iM_size z_6193 z_6194 z_6195 z_6196 z_6197 z_6198 z_6199 iM_trouble rM_letters z_6200 iM_hasCourt rM_r rM_fresh rM_told rM_read rM_st rM_undone rM_kept iM_undos iM_images rM_fresher x_6187 iM_scale iM_night rM_heardRow rM_cutRow iM_breaths iM_cutMany iM_allBreaths rM_trial rM_words iM_fewestBreaths iM_orderMany iM_orderSum iM_leastOrder rM_often iM_setMany iM_someOf iM_allOf iM_allWeight iM_enoughWeight iM_worthSum iM_firstRest iM_leastDrawn), (arI rM_fresh kM_fresh 287 f_6209), (arI rM_fresher kM_fresher 8 f_6189)]) hD hS hA [0, 3, 5] rfl
            refine va_callv (va_runV (As := [.int p0]) (rest := []) ⟨hx, hb, hml, hown, hts⟩ (tX7_lay l dC dI _ oM iM_thrown rM_tape iM_taped iM_size z_6193 z_6194 z_6195 z_6196 z_6197 z_6198 z_6199 iM_trouble rM_letters z_6200 iM_hasCourt rM_r rM_fresh f_6209 kM_fresh rM_told rM_read rM_st rM_undone rM_kept iM_undos iM_images rM_fresher f_6189 kM_fresher x_6187 iM_scale iM_night rM_heardRow rM_cutRow iM_breaths iM_cutMany iM_allBreaths rM_trial rM_words iM_fewestBreaths iM_orderMany iM_orderSum iM_leastOrder rM_often iM_setMany iM_someOf iM_allOf iM_allWeight iM_enoughWeight iM_worthSum iM_firstRest iM_leastDrawn p0 (by first | omega | decide) (by first | omega | decide) (by first | exact b_z_6194 | omega | decide) (by first | exact b_z_6197 | omega | decide) (by first | exact b_z_6200 | omega | decide) (by first | omega | decide) (by first | omega | decide) (by first | omega | decide) (by first | omega | decide) (by first | omega | decide) (by first | omega | decide) (by first | assumption | exact (fun h9 => by have q0 := kc_0; have q1 := kc_1; omega)) (by first | omega | decide | assumption | (have q0 := kc_0; have q1 := kc_1; omega) | (intro h; exact absurd h (by decide))) (by first | omega | decide | assumption | (have q0 := kc_0; have q1 := kc_1; omega) | (intro h; exact absurd h (by decide)))) (cwV 1 hts (wd_V wd_478 wd_479 wd_480 wd_5 (wd_c wd_481)) rfl rfl rfl (by decide +kernel) ⟨Nat.le_of_ble_eq_true rfl, Nat.le_of_ble_eq_true rfl⟩) ⟨Pw.fb, va_recv hK hP (ci := 7) (q0 := 0) rfl rfl, fun U hU hW => Pw.to (hP.sub [0, 3, 5] rfl) (hD.sub [0, 3, 5] (by decide) rfl) (hK.sub [2, 4] rfl) hE hS hFc hU hW⟩ rfl rfl hl.1 rfl (lv_room (Nat.le_of_ble_eq_true rfl)) dX7_innerLine_218 ⟨Nat.le_of_ble_eq_true rfl, Nat.le_of_ble_eq_true rfl⟩) hS (fun q _ h => hFc q h) hFc (fun u t H locs ht hvm hw hB hz1 hk1 hS => ?_)
            obtain ⟨f_6210, e_f_6210_0, e_f_6210_1, hB⟩ := hB
            obtain ⟨hP, hD, hK⟩ := Bw.go (ws' := [(arI rM_tape kM_tape 900 fM_tape), (arI rM_letters kM_letters 8 f_6201), (arI rM_read kM_read 90 f_6203), (oc7 oM iM_thrown rM_tape iM_taped iM_size z_6193 z_6194 z_6195 z_6196 z_6197 z_6198 z_6199 iM_trouble rM_letters z_6200 iM_hasCourt rM_r rM_fresh rM_told rM_read rM_st rM_undone rM_kept iM_undos iM_images rM_fresher x_6187 iM_scale iM_night rM_heardRow rM_cutRow iM_breaths iM_cutMany iM_allBreaths rM_trial rM_words iM_fewestBreaths iM_orderMany iM_orderSum iM_leastOrder rM_often iM_setMany iM_someOf iM_allOf iM_allWeight iM_enoughWeight iM_worthSum iM_firstRest iM_leastDrawn), (arI rM_fresh kM_fresh 287 f_6210), (arI rM_fresher kM_fresher 8 f_6189)]) (tys' := [(kM_tape, .int), (kM_letters, .int), (kM_read, .int), (kM_fresh, .int), (kM_fresher, .int)]) hB rfl ht hvm hP hD hK [0, 3, 5] [1, 2, 4] rfl (by decide) (by decide) [0, 1, 3] hk1 hFc rfl rfl rfl
            clear hz1 hk1 hvm ht hB
            have o2_f_6210 : (f_6210 2).toInt = (f_6209 2).toInt := by rw [(e_f_6210_0).2.2.1 2 (by decide) (by decide) (by have q1 := ti_cl (x := f_6209 1) rfl (by omega); omega)]
            have o7_f_6210 : (f_6210 7).toInt = (f_6209 7).toInt := by rw [(e_f_6210_0).2.2.1 7 (by decide) (by decide) (by have q1 := ti_cl (x := f_6209 1) rfl (by omega); omega)]
            have o8_f_6210 : (f_6210 8).toInt = (f_6209 8).toInt := by rw [(e_f_6210_0).2.2.1 8 (by decide) (by decide) (by have q1 := ti_cl (x := f_6209 1) rfl (by omega); omega)]
            have hG := hG.trans (lt_eq e_f_6210_1.symm)
            refine lv_aload_n hx hb dX7_innerLine_221 rfl (lv_at hl 3 rfl) ?_
            refine va_get (D := (dC, dI)) (ci := 7) (v := .ref rM_fresh) (C := RX7) (T := TX7) (N := 48) hx hb hts inX7 hown hK hP 3 rfl rfl 16 (by decide) (hts _ wd_156) (fun _ h9 => h9) rfl dX7_innerLine_222 ?_
            refine lv_bipush (v := 7) hx hb dX7_innerLine_225 (by decide) ?_
            refine lv_dup2_11 hx hb dX7_innerLine_227 rfl rfl ?_
            refine va_iald hx hb hK hP 4 3 rfl rfl (by unfold vp_in; decide) dX7_innerLine_228 ?_
            refine lv_topi (fun x_6211 ex_6211 => ?_)
            have hG := hG.trans (lt_eq ex_6211)
            have cx_6211 : (f_6210 7).toInt = x_6211.toInt := congrArg Int32.toInt (show f_6210 7 = x_6211 from ex_6211.symm)
            refine lv_iconst (v := 1) hx hb dX7_innerLine_229 (by decide) ?_
            refine lv_iadd hx hb dX7_innerLine_230 ?_
            refine lv_topi (fun x_6212 ex_6212 => ?_)
            have hG := hG.trans (lt_eq ex_6212)
            have vx_6212 : x_6212.toInt = x_6211.toInt + 1 := by have q := ti_add ex_6212 rfl kc_1 (by omega) (by omega); omega
            refine va_iast hx hb hK hP hD hS 4 3 rfl rfl (by unfold vp_in; decide) dX7_innerLine_231 (fun H locs hP hD hS => ?_)
            obtain ⟨f_6213, ef_6213⟩ : ∃ g : Nat → Int32, g = upd f_6210 (7 : Int32).toNatClampNeg x_6212 := ⟨_, rfl⟩
            rw [← ef_6213] at hP hD
            have hG := hG.trans (lt_eq ef_6213)
            obtain ⟨hP, hD⟩ := wl2 (ws' := [(arI rM_tape kM_tape 900 fM_tape), (arI rM_letters kM_letters 8 f_6201), (arI rM_read kM_read 90 f_6203), (oc7 oM iM_thrown rM_tape iM_taped iM_size z_6193 z_6194 z_6195 z_6196 z_6197 z_6198 z_6199 iM_trouble rM_letters z_6200 iM_hasCourt rM_r rM_fresh rM_told rM_read rM_st rM_undone rM_kept iM_undos iM_images rM_fresher x_6187 iM_scale iM_night rM_heardRow rM_cutRow iM_breaths iM_cutMany iM_allBreaths rM_trial rM_words iM_fewestBreaths iM_orderMany iM_orderSum iM_leastOrder rM_often iM_setMany iM_someOf iM_allOf iM_allWeight iM_enoughWeight iM_worthSum iM_firstRest iM_leastDrawn), (arI rM_fresh kM_fresh 287 f_6213), (arI rM_fresher kM_fresher 8 f_6189)]) hP hD rfl
            have o8_f_6213 : (f_6213 8).toInt = (f_6210 8).toInt := put_at ef_6213 (by decide)
            refine lv_aload_n hx hb dX7_innerLine_232 rfl (lv_at hl 3 rfl) ?_
            refine va_get (D := (dC, dI)) (ci := 7) (v := .ref rM_fresh) (C := RX7) (T := TX7) (N := 48) hx hb hts inX7 hown hK hP 3 rfl rfl 16 (by decide) (hts _ wd_156) (fun _ h9 => h9) rfl dX7_innerLine_233 ?_
            refine lv_bipush (v := 8) hx hb dX7_innerLine_236 (by decide) ?_
            refine lv_dup2_11 hx hb dX7_innerLine_238 rfl rfl ?_
            refine va_iald hx hb hK hP 4 3 rfl rfl (by unfold vp_in; decide) dX7_innerLine_239 ?_
            refine lv_topi (fun x_6214 ex_6214 => ?_)
            have hG := hG.trans (lt_eq ex_6214)
            have cx_6214 : (f_6213 8).toInt = x_6214.toInt := congrArg Int32.toInt (show f_6213 8 = x_6214 from ex_6214.symm)
            refine lv_iload_n hx hb dX7_innerLine_240 rfl (lv_at hl 4 rfl) ?_
            refine lv_iconst (v := 3) hx hb dX7_innerLine_241 (by decide) ?_
            refine lv_icmp_ne (tgt := 249) hx hb dX7_innerLine_242 (by decide) (fun c_6215 => ?_) (fun c_6215 => ?_)
            · skip
              have hG := hG.trans (if_neg c_6215)
              have gc_6215 := ti_ne c_6215 rfl kc_3
              replace gc_6215 : p0.toInt + (-2) ≤ 0 := by omega
              clear hic
              refine lv_iconst (v := 0) hx hb dX7_innerLine_249 (by decide) ?_
              refine lv_iadd hx hb dX7_innerLine_250 ?_
              refine lv_topi (fun x_6216 ex_6216 => ?_)
              have hG := hG.trans (lt_eq ex_6216)
              have vx_6216 : x_6216.toInt = x_6214.toInt := by have q := ti_add ex_6216 rfl kc_0 (by omega) (by omega); omega
              refine va_iast hx hb hK hP hD hS 4 3 rfl rfl (by unfold vp_in; decide) dX7_innerLine_251 (fun H locs hP hD hS => ?_)
              obtain ⟨f_6217, ef_6217⟩ : ∃ g : Nat → Int32, g = upd f_6213 (8 : Int32).toNatClampNeg x_6216 := ⟨_, rfl⟩
              rw [← ef_6217] at hP hD
              have hG := hG.trans (lt_eq ef_6217)
              obtain ⟨hP, hD⟩ := wl2 (ws' := [(arI rM_tape kM_tape 900 fM_tape), (arI rM_letters kM_letters 8 f_6201), (arI rM_read kM_read 90 f_6203), (oc7 oM iM_thrown rM_tape iM_taped iM_size z_6193 z_6194 z_6195 z_6196 z_6197 z_6198 z_6199 iM_trouble rM_letters z_6200 iM_hasCourt rM_r rM_fresh rM_told rM_read rM_st rM_undone rM_kept iM_undos iM_images rM_fresher x_6187 iM_scale iM_night rM_heardRow rM_cutRow iM_breaths iM_cutMany iM_allBreaths rM_trial rM_words iM_fewestBreaths iM_orderMany iM_orderSum iM_leastOrder rM_often iM_setMany iM_someOf iM_allOf iM_allWeight iM_enoughWeight iM_worthSum iM_firstRest iM_leastDrawn), (arI rM_fresh kM_fresh 287 f_6217), (arI rM_fresher kM_fresher 8 f_6189)]) hP hD rfl
              have pk_f_6217 : POk f_6217 f_6203 := POk.inner (f := f_6202) (m := z_6191.toNatClampNeg) hi2_n_6204 ef_6209 (by have q9 := ti_cl (x := x_6208) vx_6208 (by omega); have q2 := ti_cl (x := f_6202 1) rfl (by omega); omega) (by have q3 := ti_cl (x := z_6191) rfl (by omega); omega) (by have q3 := ti_cl (x := z_6191) rfl (by omega); omega) (by have q3 := ti_cl (x := z_6191) rfl (by omega); omega) e_f_6210_0 (by omega) ef_6213 rfl (by have q := vx_6212; omega) ef_6217 rfl (by have q := vx_6216; have q0 := kc_0; have q1 := kc_1; first | (rw [if_pos (by omega)]; omega) | (rw [if_neg (by omega)]; omega)) (by omega) (fun h9 => by omega) hi3_n_6204
              have pl_f_6217 := pk_f_6217.lins
              exact W.vret hx hb hr (fun t ht hW => ⟨⟨0, rfl, trivial, ⟨z_6193, z_6194, z_6195, z_6196, z_6197, z_6198, z_6199, z_6200, x_6187, f_6201, f_6217, f_6203, f_6189, b_z_6194, b_z_6197, b_z_6200, (by first | assumption | (have q0 := kc_0; have q1 := kc_1; omega)), hi6_n_6204, (by first | assumption | (have q0 := kc_0; have q1 := kc_1; omega)), (fun h9 => by have q0 := kc_0; have q1 := kc_1; have q9 := hi8_n_6204 (by omega); omega), (by first | assumption | (have q0 := kc_0; have q1 := kc_1; omega)), hG, Bw.to (hP.sub [3, 0, 1, 4, 2, 5] rfl) (hD.sub [3, 0, 1, 4, 2, 5] (by decide) rfl) (hK.sub [0, 1, 3, 2, 4] rfl) ht hW⟩⟩, hS.F ht⟩) hS.2.2 dX7_innerLine_252
            · skip
              have hG := hG.trans (if_pos c_6215)
              have gc_6215 := ti_eq c_6215 rfl kc_3
              have h_6218 := hic (by omega)
              clear hic
              refine lv_iconst (v := 1) hx hb dX7_innerLine_245 (by decide) ?_
              refine lv_goto (tgt := 250) hx hb dX7_innerLine_246 (by decide) ?_
              refine lv_iadd hx hb dX7_innerLine_250 ?_
              refine lv_topi (fun x_6219 ex_6219 => ?_)
              have hG := hG.trans (lt_eq ex_6219)
              have vx_6219 : x_6219.toInt = x_6214.toInt + 1 := by have q := ti_add ex_6219 rfl kc_1 (by omega) (by omega); omega
              refine va_iast hx hb hK hP hD hS 4 3 rfl rfl (by unfold vp_in; decide) dX7_innerLine_251 (fun H locs hP hD hS => ?_)
              obtain ⟨f_6220, ef_6220⟩ : ∃ g : Nat → Int32, g = upd f_6213 (8 : Int32).toNatClampNeg x_6219 := ⟨_, rfl⟩
              rw [← ef_6220] at hP hD
              have hG := hG.trans (lt_eq ef_6220)
              obtain ⟨hP, hD⟩ := wl2 (ws' := [(arI rM_tape kM_tape 900 fM_tape), (arI rM_letters kM_letters 8 f_6201), (arI rM_read kM_read 90 f_6203), (oc7 oM iM_thrown rM_tape iM_taped iM_size z_6193 z_6194 z_6195 z_6196 z_6197 z_6198 z_6199 iM_trouble rM_letters z_6200 iM_hasCourt rM_r rM_fresh rM_told rM_read rM_st rM_undone rM_kept iM_undos iM_images rM_fresher x_6187 iM_scale iM_night rM_heardRow rM_cutRow iM_breaths iM_cutMany iM_allBreaths rM_trial rM_words iM_fewestBreaths iM_orderMany iM_orderSum iM_leastOrder rM_often iM_setMany iM_someOf iM_allOf iM_allWeight iM_enoughWeight iM_worthSum iM_firstRest iM_leastDrawn), (arI rM_fresh kM_fresh 287 f_6220), (arI rM_fresher kM_fresher 8 f_6189)]) hP hD rfl
              have pk_f_6220 : POk f_6220 f_6203 := POk.inner (f := f_6202) (m := z_6191.toNatClampNeg) hi2_n_6204 ef_6209 (by have q9 := ti_cl (x := x_6208) vx_6208 (by omega); have q2 := ti_cl (x := f_6202 1) rfl (by omega); omega) (by have q3 := ti_cl (x := z_6191) rfl (by omega); omega) (by have q3 := ti_cl (x := z_6191) rfl (by omega); omega) (by have q3 := ti_cl (x := z_6191) rfl (by omega); omega) e_f_6210_0 (by omega) ef_6213 rfl (by have q := vx_6212; omega) ef_6220 rfl (by have q := vx_6219; have q0 := kc_0; have q1 := kc_1; first | (rw [if_pos (by omega)]; omega) | (rw [if_neg (by omega)]; omega)) (by omega) (fun h9 => by omega) hi3_n_6204
              have pl_f_6220 := pk_f_6220.lins
              exact W.vret hx hb hr (fun t ht hW => ⟨⟨0, rfl, trivial, ⟨z_6193, z_6194, z_6195, z_6196, z_6197, z_6198, z_6199, z_6200, x_6187, f_6201, f_6220, f_6203, f_6189, b_z_6194, b_z_6197, b_z_6200, (by first | assumption | (have q0 := kc_0; have q1 := kc_1; omega)), hi6_n_6204, (by first | assumption | (have q0 := kc_0; have q1 := kc_1; omega)), (fun h9 => by have q0 := kc_0; have q1 := kc_1; have q9 := hi8_n_6204 (by omega); omega), (by first | assumption | (have q0 := kc_0; have q1 := kc_1; omega)), hG, Bw.to (hP.sub [3, 0, 1, 4, 2, 5] rfl) (hD.sub [3, 0, 1, 4, 2, 5] (by decide) rfl) (hK.sub [0, 1, 3, 2, 4] rfl) ht hW⟩⟩, hS.F ht⟩) hS.2.2 dX7_innerLine_252
          · skip
            have hG := hG.trans (if_neg c_6207)
            have gc_6207 := ti_ne c_6207 rfl kc_0
            replace gc_6207 : (-1) * z_6200.toInt + 1 ≤ 0 := by omega
            exact W.vret hx hb hr (fun t ht hW => ⟨⟨0, rfl, trivial, ⟨z_6193, z_6194, z_6195, z_6196, z_6197, z_6198, z_6199, z_6200, x_6187, f_6201, f_6202, f_6203, f_6189, b_z_6194, b_z_6197, b_z_6200, (by first | assumption | (have q0 := kc_0; have q1 := kc_1; omega)), hi6_n_6204, (by first | assumption | (have q0 := kc_0; have q1 := kc_1; omega)), (fun h9 => by have q0 := kc_0; have q1 := kc_1; omega), (by first | assumption | (have q0 := kc_0; have q1 := kc_1; omega)), hG, Bw.to (hP.sub [0, 1, 2, 3, 4, 5] rfl) (hD.sub [0, 1, 2, 3, 4, 5] (by decide) rfl) (hK.sub [0, 1, 2, 3, 4] rfl) ht hW⟩⟩, hS.F ht⟩) hS.2.2 dX7_innerLine_205
        · skip
          have hG := hG.trans (if_neg c_6205)
          have gc_6205 := ti_ne c_6205 rfl kc_0
          replace gc_6205 : (-1) * z_6192.toInt + 1 ≤ 0 := by omega
          clear hi5_n_6204
          refine lv_aload_n hx hb dX7_innerLine_29 rfl (lv_at hl 3 rfl) ?_
          refine va_get (D := (dC, dI)) (ci := 7) (v := .int z_6200) (C := RX7) (T := TX7) (N := 48) hx hb hts inX7 hown hK hP 0 rfl rfl 13 (by decide) (hts _ wd_380) (fun _ h9 => h9) rfl dX7_innerLine_30 ?_
          refine lv_if_ne (tgt := 198) hx hb dX7_innerLine_33 (by decide) (fun c_6221 => ?_) (fun c_6221 => ?_)
          · skip
            have hG := hG.trans (if_neg c_6221)
            have gc_6221 := ti_ne c_6221 rfl kc_0
            replace gc_6221 : (-1) * z_6200.toInt + 1 ≤ 0 := by omega
            refine lv_aload_n hx hb dX7_innerLine_198 rfl (lv_at hl 3 rfl) ?_
            refine va_get (D := (dC, dI)) (ci := 7) (v := .int z_6200) (C := RX7) (T := TX7) (N := 48) hx hb hts inX7 hown hK hP 0 rfl rfl 13 (by decide) (hts _ wd_380) (fun _ h9 => h9) rfl dX7_innerLine_199 ?_
            refine lv_if_eq (tgt := 206) hx hb dX7_innerLine_202 (by decide) (fun c_6222 => ?_) (fun c_6222 => ?_)
            · skip
              have hG := hG.trans (if_pos c_6222)
              have gc_6222 := ti_eq c_6222 rfl kc_0
              exfalso; clear hG; omega
            · skip
              have hG := hG.trans (if_neg c_6222)
              have gc_6222 := ti_ne c_6222 rfl kc_0
              replace gc_6222 : (-1) * z_6200.toInt + 1 ≤ 0 := by omega
              exact W.vret hx hb hr (fun t ht hW => ⟨⟨0, rfl, trivial, ⟨z_6193, z_6194, z_6195, z_6196, z_6197, z_6198, z_6199, z_6200, x_6187, f_6201, f_6202, f_6203, f_6189, b_z_6194, b_z_6197, b_z_6200, (by first | assumption | (have q0 := kc_0; have q1 := kc_1; omega)), hi6_n_6204, (by first | assumption | (have q0 := kc_0; have q1 := kc_1; omega)), (fun h9 => by have q0 := kc_0; have q1 := kc_1; omega), (by first | assumption | (have q0 := kc_0; have q1 := kc_1; omega)), hG, Bw.to (hP.sub [0, 1, 2, 3, 4, 5] rfl) (hD.sub [0, 1, 2, 3, 4, 5] (by decide) rfl) (hK.sub [0, 1, 2, 3, 4] rfl) ht hW⟩⟩, hS.F ht⟩) hS.2.2 dX7_innerLine_205
          · skip
            have hG := hG.trans (if_pos c_6221)
            have gc_6221 := ti_eq c_6221 rfl kc_0
            refine lv_aload_n hx hb dX7_innerLine_36 rfl (lv_at hl 3 rfl) ?_
            have hFc := va_free (wc := [(oc7 oM iM_thrown rM_tape iM_taped iM_size z_6193 z_6194 z_6195 z_6196 z_6197 z_6198 z_6199 iM_trouble rM_letters z_6200 iM_hasCourt rM_r rM_fresh rM_told rM_read rM_st rM_undone rM_kept iM_undos iM_images rM_fresher x_6187 iM_scale iM_night rM_heardRow rM_cutRow iM_breaths iM_cutMany iM_allBreaths rM_trial rM_words iM_fewestBreaths iM_orderMany iM_orderSum iM_leastOrder rM_often iM_setMany iM_someOf iM_allOf iM_allWeight iM_enoughWeight iM_worthSum iM_firstRest iM_leastDrawn), (arI rM_letters kM_letters 8 f_6201), (arI rM_fresh kM_fresh 287 f_6202), (arI rM_read kM_read 90 f_6203)]) hD hS hA [0, 2, 3, 4] rfl
            refine va_calli (va_runV (As := []) (rest := []) ⟨hx, hb, hml, hown, hts⟩ (tX7_nodeHere l dC dI _ oM iM_thrown rM_tape iM_taped iM_size z_6193 z_6194 z_6195 z_6196 z_6197 z_6198 z_6199 iM_trouble rM_letters f_6201 kM_letters z_6200 iM_hasCourt rM_r rM_fresh f_6202 kM_fresh rM_told rM_read f_6203 kM_read rM_st rM_undone rM_kept iM_undos iM_images rM_fresher x_6187 iM_scale iM_night rM_heardRow rM_cutRow iM_breaths iM_cutMany iM_allBreaths rM_trial rM_words iM_fewestBreaths iM_orderMany iM_orderSum iM_leastOrder rM_often iM_setMany iM_someOf iM_allOf iM_allWeight iM_enoughWeight iM_worthSum iM_firstRest iM_leastDrawn (by first | omega | decide) (by first | omega | decide) (by first | exact b_z_6194 | omega | decide) (by first | exact b_z_6197 | omega | decide) (by first | exact b_z_6200 | omega | decide) (by first | omega | decide) (by first | omega | decide) (by first | omega | decide) (by first | omega | decide) (by first | omega | decide) (by first | omega | decide) (by first | assumption | exact (fun h9 => by have q0 := kc_0; have q1 := kc_1; omega)) (by assumption)) (cwV 0 hts (wd_V wd_486 wd_487 wd_488 wd_5 (wd_c wd_489)) rfl rfl rfl (by decide +kernel) ⟨Nat.le_of_ble_eq_true rfl, Nat.le_of_ble_eq_true rfl⟩) ⟨Pw.fb, va_recv hK hP (ci := 7) (q0 := 0) rfl rfl, fun U hU hW => Pw.to (hP.sub [0, 2, 3, 4] rfl) (hD.sub [0, 2, 3, 4] (by decide) rfl) (hK.sub [1, 2, 3] rfl) hE hS hFc hU hW⟩ rfl rfl hl.1 rfl (lv_room (Nat.le_of_ble_eq_true rfl)) dX7_innerLine_37 ⟨Nat.le_of_ble_eq_true rfl, Nat.le_of_ble_eq_true rfl⟩) hS (fun q _ h => hFc q h) hFc (fun r u t H locs ht hvm hw hB hz1 hk1 hS => ?_)
            have hru9 := hw.2
            have hw := hw.1
            obtain ⟨x_6223, x_6224, x_6225, b_x_6225, e_x_6223_0, e_x_6223_1, e_x_6223_2, hB⟩ := hB
            obtain ⟨hP, hD, hK⟩ := Bw.go (ws' := [(arI rM_tape kM_tape 900 fM_tape), (arI rM_fresher kM_fresher 8 f_6189), (oc7 oM iM_thrown rM_tape iM_taped iM_size z_6193 z_6194 z_6195 z_6196 z_6197 x_6223 x_6224 iM_trouble rM_letters x_6225 iM_hasCourt rM_r rM_fresh rM_told rM_read rM_st rM_undone rM_kept iM_undos iM_images rM_fresher x_6187 iM_scale iM_night rM_heardRow rM_cutRow iM_breaths iM_cutMany iM_allBreaths rM_trial rM_words iM_fewestBreaths iM_orderMany iM_orderSum iM_leastOrder rM_often iM_setMany iM_someOf iM_allOf iM_allWeight iM_enoughWeight iM_worthSum iM_firstRest iM_leastDrawn), (arI rM_letters kM_letters 8 f_6201), (arI rM_fresh kM_fresh 287 f_6202), (arI rM_read kM_read 90 f_6203)]) (tys' := [(kM_tape, .int), (kM_fresher, .int), (kM_letters, .int), (kM_fresh, .int), (kM_read, .int)]) hB rfl ht hvm hP hD hK [0, 2, 3, 4] [1, 5] rfl (by decide) (by decide) [0, 4] hk1 hFc rfl rfl rfl
            clear hz1 hk1 hvm ht hB
            rw [← hru9] at e_x_6223_2
            obtain ⟨x_6226, rfl⟩ : ∃ z, z = r := ⟨_, rfl⟩
            have hG := hG.trans (un4_eq e_x_6223_2)
            have lx_6226 := hw.2
            have ux_6226 := hw.2
            refine lv_istore (lv' := [(5, .int x_6226), (4, .int z_6192), (3, .int z_6191), (2, .int x_6190), (0, .ref oM), (1, .int p0)]) hx hb dX7_innerLine_40 hl (by decide) rfl (fun ls hl => ?_)
            refine lv_iconst (v := 0) hx hb dX7_innerLine_42 (by decide) ?_
            refine lv_istore (lv' := [(6, .int 0), (5, .int x_6226), (4, .int z_6192), (3, .int z_6191), (2, .int x_6190), (0, .ref oM), (1, .int p0)]) hx hb dX7_innerLine_43 hl (by decide) rfl (fun ls hl => ?_)
            have hl := lv_sub hl (l' := [(6, .int 0), (5, .int x_6226), (4, .int z_6192), (3, .int z_6191), (2, .int x_6190), (0, .ref oM), (1, .int p0)]) [0, 1, 2, 3, 4, 5, 6] rfl
            have key_n_6231 : ∀ (n_6231 : Nat) (z_6227 : Int32) (z_6228 : Int32) (z_6229 : Int32) (z_6230 : Int32) (H : Heap) (locs : List Loc) (ls : Array Slot), (0 ≤ z_6228.toInt ∧ z_6228.toInt ≤ 1) → (0 ≤ z_6227.toInt ∧ z_6227.toInt ≤ z_6191.toInt) → (x_6225.toInt ≤ z_6228.toInt) → (NeI z_6228.toInt z_6227.toNatClampNeg f_6203 x_6190.toNatClampNeg x_6226.toInt) → (z_6191.toInt - z_6227.toInt).toNat < n_6231 → (PX7_innerLine fM_tape iM_size iM_at iM_end iM_token iM_whole iM_nameSize iM_fault iM_place fM_letters iM_failed fM_fresh fM_read fM_fresher iM_fresherSize p0 = HX7_innerLine_1 fM_tape iM_size p0 x_6187 f_6189 x_6190 z_6191 z_6193 z_6194 z_6195 z_6196 z_6197 f_6201 f_6202 f_6203 x_6226 (fun (z_6191 : Int32) (z_6192 : Int32) (z_6193 : Int32) (z_6194 : Int32) (z_6195 : Int32) (z_6196 : Int32) (z_6197 : Int32) (z_6198 : Int32) (z_6199 : Int32) (z_6200 : Int32) (f_6201 : Nat → Int32) (f_6202 : Nat → Int32) (f_6203 : Nat → Int32) => HX7_innerLine_0 fM_tape iM_size p0 x_6187 f_6189 x_6190 n_6204 z_6191 z_6192 z_6193 z_6194 z_6195 z_6196 z_6197 z_6198 z_6199 z_6200 f_6201 f_6202 f_6203) n_6231 z_6227 z_6228 z_6229 z_6230) → va_P (dC, dI) vwCl [(arI rM_tape kM_tape 900 fM_tape), (arI rM_fresher kM_fresher 8 f_6189), (oc7 oM iM_thrown rM_tape iM_taped iM_size z_6193 z_6194 z_6195 z_6196 z_6197 z_6229 z_6230 iM_trouble rM_letters z_6228 iM_hasCourt rM_r rM_fresh rM_told rM_read rM_st rM_undone rM_kept iM_undos iM_images rM_fresher x_6187 iM_scale iM_night rM_heardRow rM_cutRow iM_breaths iM_cutMany iM_allBreaths rM_trial rM_words iM_fewestBreaths iM_orderMany iM_orderSum iM_leastOrder rM_often iM_setMany iM_someOf iM_allOf iM_allWeight iM_enoughWeight iM_worthSum iM_firstRest iM_leastDrawn), (arI rM_letters kM_letters 8 f_6201), (arI rM_fresh kM_fresh 287 f_6202), (arI rM_read kM_read 90 f_6203)] H → va_D A [(arI rM_tape kM_tape 900 fM_tape), (arI rM_fresher kM_fresher 8 f_6189), (oc7 oM iM_thrown rM_tape iM_taped iM_size z_6193 z_6194 z_6195 z_6196 z_6197 z_6229 z_6230 iM_trouble rM_letters z_6228 iM_hasCourt rM_r rM_fresh rM_told rM_read rM_st rM_undone rM_kept iM_undos iM_images rM_fresher x_6187 iM_scale iM_night rM_heardRow rM_cutRow iM_breaths iM_cutMany iM_allBreaths rM_trial rM_words iM_fewestBreaths iM_orderMany iM_orderSum iM_leastOrder rM_often iM_setMany iM_someOf iM_allOf iM_allWeight iM_enoughWeight iM_worthSum iM_firstRest iM_leastDrawn), (arI rM_letters kM_letters 8 f_6201), (arI rM_fresh kM_fresh 287 f_6202), (arI rM_read kM_read 90 f_6203)] → va_S A s.heap H locs → lv_has ls 7 [(6, .int z_6227), (5, .int x_6226), (4, .int z_6192), (3, .int z_6191), (2, .int x_6190), (0, .ref oM), (1, .int p0)] → W p l e (headSpec (Cond.code yX7_innerLine cX7_innerLine 7 none :: wG) ({ frames := 7, cells := 0, slots := 0, locals := 175 })).room s m ([.ref oM, .int p0] : List Value).toArray below meth c H locs 0 0 (MQ below (va_Qv (fun (_ : Nat) => True) (fun (_ : Nat) (t : State) => ∃ (niM_at : Int32) (niM_end : Int32) (niM_token : Int32) (niM_whole : Int32) (niM_nameSize : Int32) (niM_fault : Int32) (niM_place : Int32) (niM_failed : Int32) (niM_fresherSize : Int32) (nfM_letters : Nat → Int32) (nfM_fresh : Nat → Int32) (nfM_read : Nat → Int32) (nfM_fresher : Nat → Int32), (0 ≤ niM_end.toInt ∧ niM_end.toInt ≤ 900) ∧ (0 ≤ niM_nameSize.toInt ∧ niM_nameSize.toInt ≤ 900) ∧ (0 ≤ niM_failed.toInt ∧ niM_failed.toInt ≤ 1) ∧ (iM_end.toInt ≤ niM_end.toInt) ∧ (ImpP (niM_token.toInt = 2) (niM_nameSize.toInt ≤ 8)) ∧ (iM_failed.toInt ≤ niM_failed.toInt) ∧ (ImpP (niM_failed.toInt ≤ 0 ∧ niM_token.toInt = 59 ) (iM_end.toInt + 1 ≤ niM_end.toInt)) ∧ (POk nfM_fresh nfM_read) ∧ (PX7_innerLine fM_tape iM_size iM_at iM_end iM_token iM_whole iM_nameSize iM_fault iM_place fM_letters iM_failed fM_fresh fM_read fM_fresher iM_fresherSize p0 = (niM_at, niM_end, niM_token, niM_whole, niM_nameSize, niM_fault, niM_place, niM_failed, niM_fresherSize, nfM_letters, nfM_fresh, nfM_read, nfM_fresher)) ∧ Bw dC dI A [(oc7 oM iM_thrown rM_tape iM_taped iM_size niM_at niM_end niM_token niM_whole niM_nameSize niM_fault niM_place iM_trouble rM_letters niM_failed iM_hasCourt rM_r rM_fresh rM_told rM_read rM_st rM_undone rM_kept iM_undos iM_images rM_fresher niM_fresherSize iM_scale iM_night rM_heardRow rM_cutRow iM_breaths iM_cutMany iM_allBreaths rM_trial rM_words iM_fewestBreaths iM_orderMany iM_orderSum iM_leastOrder rM_often iM_setMany iM_someOf iM_allOf iM_allWeight iM_enoughWeight iM_worthSum iM_firstRest iM_leastDrawn), (arI rM_tape kM_tape 900 fM_tape), (arI rM_letters kM_letters 8 nfM_letters), (arI rM_fresh kM_fresh 287 nfM_fresh), (arI rM_read kM_read 90 nfM_read), (arI rM_fresher kM_fresher 8 nfM_fresher)] [(kM_tape, .int), (kM_letters, .int), (kM_fresh, .int), (kM_read, .int), (kM_fresher, .int)] t) A) ([.ref oM, .int p0] : List Value).toArray s 0 0 A) (F0 m 45 ls []) := by
              intro n_6231
              induction n_6231 with
              | zero => intro z_6227 z_6228 z_6229 z_6230 H locs ls b_z_6228 hi0_n_6231 hi1_n_6231 hi2_n_6231 hm; exact absurd hm (by omega)
              | succ n_6231 ih_n_6231 =>
                intro z_6227 z_6228 z_6229 z_6230 H locs ls b_z_6228 hi0_n_6231 hi1_n_6231 hi2_n_6231 hm hG hP hD hS hl
                have hG := hG.trans (HX7_innerLine_1_eq _ _ _ _ _ _ _ _ _ _ _ _ _ _ _ _ _ _ _ _ _ _)
                refine lv_iload hx hb dX7_innerLine_45 (lv_at hl 0 rfl) ?_
                refine lv_iload_n hx hb dX7_innerLine_47 rfl (lv_at hl 3 rfl) ?_
                refine lv_icmp_ge (tgt := 89) hx hb dX7_innerLine_48 (by decide) (fun c_6232 => ?_) (fun c_6232 => ?_)
                · skip
                  have hG := hG.trans (if_pos c_6232)
                  have gc_6232 := ti_le c_6232 rfl rfl
                  refine lv_aload_n hx hb dX7_innerLine_89 rfl (lv_at hl 5 rfl) ?_
                  refine va_get (D := (dC, dI)) (ci := 7) (v := .int z_6228) (C := RX7) (T := TX7) (N := 48) hx hb hts inX7 hown hK hP 2 rfl rfl 13 (by decide) (hts _ wd_380) (fun _ h9 => h9) rfl dX7_innerLine_90 ?_
                  refine lv_if_ne (tgt := 110) hx hb dX7_innerLine_93 (by decide) (fun c_6233 => ?_) (fun c_6233 => ?_)
                  · skip
                    have hG := hG.trans (if_neg c_6233)
                    have gc_6233 := ti_ne c_6233 rfl kc_0
                    replace gc_6233 : (-1) * z_6228.toInt + 1 ≤ 0 := by omega
                    refine lv_aload_n hx hb dX7_innerLine_110 rfl (lv_at hl 5 rfl) ?_
                    have hFc := va_free (wc := [(oc7 oM iM_thrown rM_tape iM_taped iM_size z_6193 z_6194 z_6195 z_6196 z_6197 z_6229 z_6230 iM_trouble rM_letters z_6228 iM_hasCourt rM_r rM_fresh rM_told rM_read rM_st rM_undone rM_kept iM_undos iM_images rM_fresher x_6187 iM_scale iM_night rM_heardRow rM_cutRow iM_breaths iM_cutMany iM_allBreaths rM_trial rM_words iM_fewestBreaths iM_orderMany iM_orderSum iM_leastOrder rM_often iM_setMany iM_someOf iM_allOf iM_allWeight iM_enoughWeight iM_worthSum iM_firstRest iM_leastDrawn), (arI rM_tape kM_tape 900 fM_tape), (arI rM_letters kM_letters 8 f_6201)]) hD hS hA [2, 0, 3] rfl
                    refine va_callv (va_runV (As := []) (rest := []) ⟨hx, hb, hml, hown, hts⟩ (tX7_pass l dC dI _ oM iM_thrown rM_tape fM_tape kM_tape iM_taped iM_size z_6193 z_6194 z_6195 z_6196 z_6197 z_6229 z_6230 iM_trouble rM_letters f_6201 kM_letters z_6228 iM_hasCourt rM_r rM_fresh rM_told rM_read rM_st rM_undone rM_kept iM_undos iM_images rM_fresher x_6187 iM_scale iM_night rM_heardRow rM_cutRow iM_breaths iM_cutMany iM_allBreaths rM_trial rM_words iM_fewestBreaths iM_orderMany iM_orderSum iM_leastOrder rM_often iM_setMany iM_someOf iM_allOf iM_allWeight iM_enoughWeight iM_worthSum iM_firstRest iM_leastDrawn (by first | omega | decide) (by first | omega | decide) (by first | exact b_z_6194 | omega | decide) (by first | exact b_z_6197 | omega | decide) (by first | exact b_z_6228 | omega | decide) (by first | omega | decide) (by first | omega | decide) (by first | omega | decide) (by first | omega | decide) (by first | omega | decide) (by first | omega | decide) (by first | assumption | exact (fun h9 => by have q0 := kc_0; have q1 := kc_1; omega))) (cwV 0 hts (wd_V wd_454 wd_455 wd_456 wd_5 (wd_c wd_457)) rfl rfl rfl (by decide +kernel) ⟨Nat.le_of_ble_eq_true rfl, Nat.le_of_ble_eq_true rfl⟩) ⟨Pw.fb, va_recv hK hP (ci := 7) (q0 := 2) rfl rfl, fun U hU hW => Pw.to (hP.sub [2, 0, 3] rfl) (hD.sub [2, 0, 3] (by decide) rfl) (hK.sub [0, 2] rfl) hE hS hFc hU hW⟩ rfl rfl hl.1 rfl (lv_room (Nat.le_of_ble_eq_true rfl)) dX7_innerLine_111 ⟨Nat.le_of_ble_eq_true rfl, Nat.le_of_ble_eq_true rfl⟩) hS (fun q _ h => hFc q h) hFc (fun u t H locs ht hvm hw hB hz1 hk1 hS => ?_)
                    obtain ⟨x_6234, x_6235, x_6236, x_6237, x_6238, f_6239, b_x_6235, b_x_6238, e_x_6234_0, e_x_6234_1, e_x_6234_2, e_x_6234_3, hB⟩ := hB
                    obtain ⟨hP, hD, hK⟩ := Bw.go (ws' := [(arI rM_fresher kM_fresher 8 f_6189), (arI rM_fresh kM_fresh 287 f_6202), (arI rM_read kM_read 90 f_6203), (oc7 oM iM_thrown rM_tape iM_taped iM_size x_6234 x_6235 x_6236 x_6237 x_6238 z_6229 z_6230 iM_trouble rM_letters z_6228 iM_hasCourt rM_r rM_fresh rM_told rM_read rM_st rM_undone rM_kept iM_undos iM_images rM_fresher x_6187 iM_scale iM_night rM_heardRow rM_cutRow iM_breaths iM_cutMany iM_allBreaths rM_trial rM_words iM_fewestBreaths iM_orderMany iM_orderSum iM_leastOrder rM_often iM_setMany iM_someOf iM_allOf iM_allWeight iM_enoughWeight iM_worthSum iM_firstRest iM_leastDrawn), (arI rM_tape kM_tape 900 fM_tape), (arI rM_letters kM_letters 8 f_6239)]) (tys' := [(kM_fresher, .int), (kM_fresh, .int), (kM_read, .int), (kM_tape, .int), (kM_letters, .int)]) hB rfl ht hvm hP hD hK [2, 0, 3] [1, 4, 5] rfl (by decide) (by decide) [1, 3, 4] hk1 hFc rfl rfl rfl
                    clear hz1 hk1 hvm ht hB
                    have hG := hG.trans (un6_eq e_x_6234_3)
                    clear hi6_n_6204
                    clear hi8_n_6204
                    refine lv_iload_n hx hb dX7_innerLine_114 rfl (lv_at hl 6 rfl) ?_
                    refine lv_iconst (v := 3) hx hb dX7_innerLine_115 (by decide) ?_
                    refine lv_icmp_ne (tgt := 129) hx hb dX7_innerLine_116 (by decide) (fun c_6240 => ?_) (fun c_6240 => ?_)
                    · skip
                      have hG := hG.trans (if_neg c_6240)
                      have gc_6240 := ti_ne c_6240 rfl kc_3
                      replace gc_6240 : p0.toInt + (-2) ≤ 0 := by omega
                      clear hic
                      refine lv_iconst (v := 0) hx hb dX7_innerLine_129 (by decide) ?_
                      refine lv_istore (lv' := [(6, .int 0), (5, .int x_6226), (4, .int z_6192), (3, .int z_6191), (2, .int x_6190), (0, .ref oM), (1, .int p0)]) hx hb dX7_innerLine_130 hl (by decide) rfl (fun ls hl => ?_)
                      refine lv_aload_n hx hb dX7_innerLine_132 rfl (lv_at hl 5 rfl) ?_
                      refine va_get (D := (dC, dI)) (ci := 7) (v := .int z_6228) (C := RX7) (T := TX7) (N := 48) hx hb hts inX7 hown hK hP 3 rfl rfl 13 (by decide) (hts _ wd_380) (fun _ h9 => h9) rfl dX7_innerLine_133 ?_
                      refine lv_if_eq (tgt := 140) hx hb dX7_innerLine_136 (by decide) (fun c_6241 => ?_) (fun c_6241 => ?_)
                      · skip
                        have hG := hG.trans (if_pos c_6241)
                        have gc_6241 := ti_eq c_6241 rfl kc_0
                        exfalso; clear hG; omega
                      · skip
                        have hG := hG.trans (if_neg c_6241)
                        have gc_6241 := ti_ne c_6241 rfl kc_0
                        replace gc_6241 : (-1) * z_6228.toInt + 1 ≤ 0 := by omega
                        exact W.vret hx hb hr (fun t ht hW => ⟨⟨0, rfl, trivial, ⟨x_6234, x_6235, x_6236, x_6237, x_6238, z_6229, z_6230, z_6228, x_6187, f_6239, f_6202, f_6203, f_6189, b_x_6235, b_x_6238, b_z_6228, (by first | assumption | (have q0 := kc_0; have q1 := kc_1; omega)), e_x_6234_1, (by first | assumption | (have q0 := kc_0; have q1 := kc_1; omega)), (fun h9 => by have q0 := kc_0; have q1 := kc_1; omega), (by first | assumption | (have q0 := kc_0; have q1 := kc_1; omega)), hG, Bw.to (hP.sub [3, 4, 5, 1, 2, 0] rfl) (hD.sub [3, 4, 5, 1, 2, 0] (by decide) rfl) (hK.sub [3, 4, 1, 2, 0] rfl) ht hW⟩⟩, hS.F ht⟩) hS.2.2 dX7_innerLine_139
                    · skip
                      have hG := hG.trans (if_pos c_6240)
                      have gc_6240 := ti_eq c_6240 rfl kc_3
                      have h_6242 := hic (by omega)
                      clear hic
                      refine lv_aload_n hx hb dX7_innerLine_119 rfl (lv_at hl 5 rfl) ?_
                      refine lv_iconst (v := 1) hx hb dX7_innerLine_120 (by decide) ?_
                      refine lv_bipush (v := 9) hx hb dX7_innerLine_121 (by decide) ?_
                      have hFc := va_free (wc := [(oc7 oM iM_thrown rM_tape iM_taped iM_size x_6234 x_6235 x_6236 x_6237 x_6238 z_6229 z_6230 iM_trouble rM_letters z_6228 iM_hasCourt rM_r rM_fresh rM_told rM_read rM_st rM_undone rM_kept iM_undos iM_images rM_fresher x_6187 iM_scale iM_night rM_heardRow rM_cutRow iM_breaths iM_cutMany iM_allBreaths rM_trial rM_words iM_fewestBreaths iM_orderMany iM_orderSum iM_leastOrder rM_often iM_setMany iM_someOf iM_allOf iM_allWeight iM_enoughWeight iM_worthSum iM_firstRest iM_leastDrawn), (arI rM_tape kM_tape 900 fM_tape), (arI rM_letters kM_letters 8 f_6239)]) hD hS hA [3, 4, 5] rfl
                      refine va_calli (va_runV (As := [.int 1, .int 9]) (rest := []) ⟨hx, hb, hml, hown, hts⟩ (tX7_number l dC dI _ oM iM_thrown rM_tape fM_tape kM_tape iM_taped iM_size x_6234 x_6235 x_6236 x_6237 x_6238 z_6229 z_6230 iM_trouble rM_letters f_6239 kM_letters z_6228 iM_hasCourt rM_r rM_fresh rM_told rM_read rM_st rM_undone rM_kept iM_undos iM_images rM_fresher x_6187 iM_scale iM_night rM_heardRow rM_cutRow iM_breaths iM_cutMany iM_allBreaths rM_trial rM_words iM_fewestBreaths iM_orderMany iM_orderSum iM_leastOrder rM_often iM_setMany iM_someOf iM_allOf iM_allWeight iM_enoughWeight iM_worthSum iM_firstRest iM_leastDrawn 1 9 (by first | omega | decide) (by first | omega | decide) (by first | exact b_x_6235 | omega | decide) (by first | exact b_x_6238 | omega | decide) (by first | exact b_z_6228 | omega | decide) (by first | omega | decide) (by first | omega | decide) (by first | omega | decide) (by first | omega | decide) (by first | omega | decide) (by first | omega | decide) (by first | assumption | exact (fun h9 => by have q0 := kc_0; have q1 := kc_1; omega)) (by first | omega | decide | assumption | (have q0 := kc_0; have q1 := kc_1; have q2 := kc_9; omega) | (intro h; exact absurd h (by decide)))) (cwV 2 hts (wd_V wd_446 wd_447 wd_448 wd_5 (wd_c wd_449)) rfl rfl rfl (by decide +kernel) ⟨Nat.le_of_ble_eq_true rfl, Nat.le_of_ble_eq_true rfl⟩) ⟨Pw.fb, va_recv hK hP (ci := 7) (q0 := 3) rfl rfl, fun U hU hW => Pw.to (hP.sub [3, 4, 5] rfl) (hD.sub [3, 4, 5] (by decide) rfl) (hK.sub [3, 4] rfl) hE hS hFc hU hW⟩ rfl rfl hl.1 rfl (lv_room (Nat.le_of_ble_eq_true rfl)) dX7_innerLine_123 ⟨Nat.le_of_ble_eq_true rfl, Nat.le_of_ble_eq_true rfl⟩) hS (fun q _ h => hFc q h) hFc (fun r u t H locs ht hvm hw hB hz1 hk1 hS => ?_)
                      have hru9 := hw.2
                      have hw := hw.1
                      obtain ⟨x_6243, x_6244, x_6245, x_6246, x_6247, x_6248, x_6249, x_6250, f_6251, b_x_6244, b_x_6247, b_x_6250, e_x_6243_0, e_x_6243_1, e_x_6243_2, e_x_6243_3, e_x_6243_4, hB⟩ := hB
                      obtain ⟨hP, hD, hK⟩ := Bw.go (ws' := [(arI rM_fresher kM_fresher 8 f_6189), (arI rM_fresh kM_fresh 287 f_6202), (arI rM_read kM_read 90 f_6203), (oc7 oM iM_thrown rM_tape iM_taped iM_size x_6243 x_6244 x_6245 x_6246 x_6247 x_6248 x_6249 iM_trouble rM_letters x_6250 iM_hasCourt rM_r rM_fresh rM_told rM_read rM_st rM_undone rM_kept iM_undos iM_images rM_fresher x_6187 iM_scale iM_night rM_heardRow rM_cutRow iM_breaths iM_cutMany iM_allBreaths rM_trial rM_words iM_fewestBreaths iM_orderMany iM_orderSum iM_leastOrder rM_often iM_setMany iM_someOf iM_allOf iM_allWeight iM_enoughWeight iM_worthSum iM_firstRest iM_leastDrawn), (arI rM_tape kM_tape 900 fM_tape), (arI rM_letters kM_letters 8 f_6251)]) (tys' := [(kM_fresher, .int), (kM_fresh, .int), (kM_read, .int), (kM_tape, .int), (kM_letters, .int)]) hB rfl ht hvm hP hD hK [3, 4, 5] [0, 1, 2] rfl (by decide) (by decide) [0, 1, 2] hk1 hFc rfl rfl rfl
                      clear hz1 hk1 hvm ht hB
                      rw [← hru9] at e_x_6243_4
                      obtain ⟨x_6252, rfl⟩ : ∃ z, z = r := ⟨_, rfl⟩
                      have hG := hG.trans (un10_eq e_x_6243_4)
                      have lx_6252 := hw.2
                      have kl_1 := kc_1
                      have kl_9 := kc_9
                      clear e_x_6234_1
                      clear e_x_6234_2
                      refine lv_goto (tgt := 130) hx hb dX7_innerLine_126 (by decide) ?_
                      refine lv_istore (lv' := [(6, .int x_6252), (5, .int x_6226), (4, .int z_6192), (3, .int z_6191), (2, .int x_6190), (0, .ref oM), (1, .int p0)]) hx hb dX7_innerLine_130 hl (by decide) rfl (fun ls hl => ?_)
                      refine lv_aload_n hx hb dX7_innerLine_132 rfl (lv_at hl 5 rfl) ?_
                      refine va_get (D := (dC, dI)) (ci := 7) (v := .int x_6250) (C := RX7) (T := TX7) (N := 48) hx hb hts inX7 hown hK hP 3 rfl rfl 13 (by decide) (hts _ wd_380) (fun _ h9 => h9) rfl dX7_innerLine_133 ?_
                      refine lv_if_eq (tgt := 140) hx hb dX7_innerLine_136 (by decide) (fun c_6253 => ?_) (fun c_6253 => ?_)
                      · skip
                        have hG := hG.trans (if_pos c_6253)
                        have gc_6253 := ti_eq c_6253 rfl kc_0
                        exfalso; clear hG; omega
                      · skip
                        have hG := hG.trans (if_neg c_6253)
                        have gc_6253 := ti_ne c_6253 rfl kc_0
                        replace gc_6253 : (-1) * x_6250.toInt + 1 ≤ 0 := by omega
                        exact W.vret hx hb hr (fun t ht hW => ⟨⟨0, rfl, trivial, ⟨x_6243, x_6244, x_6245, x_6246, x_6247, x_6248, x_6249, x_6250, x_6187, f_6251, f_6202, f_6203, f_6189, b_x_6244, b_x_6247, b_x_6250, (by first | assumption | (have q0 := kc_0; have q1 := kc_1; omega)), e_x_6243_1, (by first | assumption | (have q0 := kc_0; have q1 := kc_1; omega)), (fun h9 => by have q0 := kc_0; have q1 := kc_1; omega), (by first | assumption | (have q0 := kc_0; have q1 := kc_1; omega)), hG, Bw.to (hP.sub [3, 4, 5, 1, 2, 0] rfl) (hD.sub [3, 4, 5, 1, 2, 0] (by decide) rfl) (hK.sub [3, 4, 1, 2, 0] rfl) ht hW⟩⟩, hS.F ht⟩) hS.2.2 dX7_innerLine_139
                  · skip
                    have hG := hG.trans (if_pos c_6233)
                    have gc_6233 := ti_eq c_6233 rfl kc_0
                    have h_6254 := e_x_6223_1 (by omega)
                    clear e_x_6223_1
                    have h_6255 := lx_6226.2.1 (by omega)
                    refine lv_iload_n hx hb dX7_innerLine_96 rfl (lv_at hl 3 rfl) ?_
                    refine lv_iconst (v := 4) hx hb dX7_innerLine_97 (by decide) ?_
                    refine lv_icmp_ne (tgt := 110) hx hb dX7_innerLine_98 (by decide) (fun c_6256 => ?_) (fun c_6256 => ?_)
                    · skip
                      have hG := hG.trans (if_neg c_6256)
                      have gc_6256 := ti_ne c_6256 rfl kc_4
                      replace gc_6256 : z_6191.toInt + (-3) ≤ 0 := by omega
                      refine lv_aload_n hx hb dX7_innerLine_110 rfl (lv_at hl 5 rfl) ?_
                      have hFc := va_free (wc := [(oc7 oM iM_thrown rM_tape iM_taped iM_size z_6193 z_6194 z_6195 z_6196 z_6197 z_6229 z_6230 iM_trouble rM_letters z_6228 iM_hasCourt rM_r rM_fresh rM_told rM_read rM_st rM_undone rM_kept iM_undos iM_images rM_fresher x_6187 iM_scale iM_night rM_heardRow rM_cutRow iM_breaths iM_cutMany iM_allBreaths rM_trial rM_words iM_fewestBreaths iM_orderMany iM_orderSum iM_leastOrder rM_often iM_setMany iM_someOf iM_allOf iM_allWeight iM_enoughWeight iM_worthSum iM_firstRest iM_leastDrawn), (arI rM_tape kM_tape 900 fM_tape), (arI rM_letters kM_letters 8 f_6201)]) hD hS hA [2, 0, 3] rfl
                      refine va_callv (va_runV (As := []) (rest := []) ⟨hx, hb, hml, hown, hts⟩ (tX7_pass l dC dI _ oM iM_thrown rM_tape fM_tape kM_tape iM_taped iM_size z_6193 z_6194 z_6195 z_6196 z_6197 z_6229 z_6230 iM_trouble rM_letters f_6201 kM_letters z_6228 iM_hasCourt rM_r rM_fresh rM_told rM_read rM_st rM_undone rM_kept iM_undos iM_images rM_fresher x_6187 iM_scale iM_night rM_heardRow rM_cutRow iM_breaths iM_cutMany iM_allBreaths rM_trial rM_words iM_fewestBreaths iM_orderMany iM_orderSum iM_leastOrder rM_often iM_setMany iM_someOf iM_allOf iM_allWeight iM_enoughWeight iM_worthSum iM_firstRest iM_leastDrawn (by first | omega | decide) (by first | omega | decide) (by first | exact b_z_6194 | omega | decide) (by first | exact b_z_6197 | omega | decide) (by first | exact b_z_6228 | omega | decide) (by first | omega | decide) (by first | omega | decide) (by first | omega | decide) (by first | omega | decide) (by first | omega | decide) (by first | omega | decide) (by first | assumption | exact (fun h9 => by have q0 := kc_0; have q1 := kc_1; omega))) (cwV 0 hts (wd_V wd_454 wd_455 wd_456 wd_5 (wd_c wd_457)) rfl rfl rfl (by decide +kernel) ⟨Nat.le_of_ble_eq_true rfl, Nat.le_of_ble_eq_true rfl⟩) ⟨Pw.fb, va_recv hK hP (ci := 7) (q0 := 2) rfl rfl, fun U hU hW => Pw.to (hP.sub [2, 0, 3] rfl) (hD.sub [2, 0, 3] (by decide) rfl) (hK.sub [0, 2] rfl) hE hS hFc hU hW⟩ rfl rfl hl.1 rfl (lv_room (Nat.le_of_ble_eq_true rfl)) dX7_innerLine_111 ⟨Nat.le_of_ble_eq_true rfl, Nat.le_of_ble_eq_true rfl⟩) hS (fun q _ h => hFc q h) hFc (fun u t H locs ht hvm hw hB hz1 hk1 hS => ?_)
                      obtain ⟨x_6257, x_6258, x_6259, x_6260, x_6261, f_6262, b_x_6258, b_x_6261, e_x_6257_0, e_x_6257_1, e_x_6257_2, e_x_6257_3, hB⟩ := hB
                      obtain ⟨hP, hD, hK⟩ := Bw.go (ws' := [(arI rM_fresher kM_fresher 8 f_6189), (arI rM_fresh kM_fresh 287 f_6202), (arI rM_read kM_read 90 f_6203), (oc7 oM iM_thrown rM_tape iM_taped iM_size x_6257 x_6258 x_6259 x_6260 x_6261 z_6229 z_6230 iM_trouble rM_letters z_6228 iM_hasCourt rM_r rM_fresh rM_told rM_read rM_st rM_undone rM_kept iM_undos iM_images rM_fresher x_6187 iM_scale iM_night rM_heardRow rM_cutRow iM_breaths iM_cutMany iM_allBreaths rM_trial rM_words iM_fewestBreaths iM_orderMany iM_orderSum iM_leastOrder rM_often iM_setMany iM_someOf iM_allOf iM_allWeight iM_enoughWeight iM_worthSum iM_firstRest iM_leastDrawn), (arI rM_tape kM_tape 900 fM_tape), (arI rM_letters kM_letters 8 f_6262)]) (tys' := [(kM_fresher, .int), (kM_fresh, .int), (kM_read, .int), (kM_tape, .int), (kM_letters, .int)]) hB rfl ht hvm hP hD hK [2, 0, 3] [1, 4, 5] rfl (by decide) (by decide) [1, 3, 4] hk1 hFc rfl rfl rfl
                      clear hz1 hk1 hvm ht hB
                      have hG := hG.trans (un6_eq e_x_6257_3)
                      clear hi6_n_6204
                      clear hi8_n_6204
                      refine lv_iload_n hx hb dX7_innerLine_114 rfl (lv_at hl 6 rfl) ?_
                      refine lv_iconst (v := 3) hx hb dX7_innerLine_115 (by decide) ?_
                      refine lv_icmp_ne (tgt := 129) hx hb dX7_innerLine_116 (by decide) (fun c_6263 => ?_) (fun c_6263 => ?_)
                      · skip
                        have hG := hG.trans (if_neg c_6263)
                        have gc_6263 := ti_ne c_6263 rfl kc_3
                        replace gc_6263 : p0.toInt + (-2) ≤ 0 := by omega
                        clear hic
                        refine lv_iconst (v := 0) hx hb dX7_innerLine_129 (by decide) ?_
                        refine lv_istore (lv' := [(6, .int 0), (5, .int x_6226), (4, .int z_6192), (3, .int z_6191), (2, .int x_6190), (0, .ref oM), (1, .int p0)]) hx hb dX7_innerLine_130 hl (by decide) rfl (fun ls hl => ?_)
                        refine lv_aload_n hx hb dX7_innerLine_132 rfl (lv_at hl 5 rfl) ?_
                        refine va_get (D := (dC, dI)) (ci := 7) (v := .int z_6228) (C := RX7) (T := TX7) (N := 48) hx hb hts inX7 hown hK hP 3 rfl rfl 13 (by decide) (hts _ wd_380) (fun _ h9 => h9) rfl dX7_innerLine_133 ?_
                        refine lv_if_eq (tgt := 140) hx hb dX7_innerLine_136 (by decide) (fun c_6264 => ?_) (fun c_6264 => ?_)
                        · skip
                          have hG := hG.trans (if_pos c_6264)
                          have gc_6264 := ti_eq c_6264 rfl kc_0
                          refine lv_aload_n hx hb dX7_innerLine_140 rfl (lv_at hl 5 rfl) ?_
                          refine va_get (D := (dC, dI)) (ci := 7) (v := .ref rM_read) (C := RX7) (T := TX7) (N := 48) hx hb hts inX7 hown hK hP 3 rfl rfl 18 (by decide) (hts _ wd_158) (fun _ h9 => h9) rfl dX7_innerLine_141 ?_
                          refine lv_iconst (v := 4) hx hb dX7_innerLine_144 (by decide) ?_
                          refine lv_iload_n hx hb dX7_innerLine_145 rfl (lv_at hl 4 rfl) ?_
                          refine lv_imul hx hb dX7_innerLine_146 ?_
                          refine lv_topi (fun x_6265 ex_6265 => ?_)
                          have hG := hG.trans (lt_eq ex_6265)
                          have vx_6265 : x_6265.toInt = 4 * x_6190.toInt := by have q := ti_mul ex_6265 kc_4 rfl (by omega) (by omega); omega
                          refine lv_iload_n hx hb dX7_innerLine_147 rfl (lv_at hl 3 rfl) ?_
                          refine lv_iadd hx hb dX7_innerLine_148 ?_
                          refine lv_topi (fun x_6266 ex_6266 => ?_)
                          have hG := hG.trans (lt_eq ex_6266)
                          have vx_6266 : x_6266.toInt = 4 * x_6190.toInt + z_6191.toInt := by have q := ti_add ex_6266 vx_6265 rfl (by omega) (by omega); omega
                          refine lv_iload hx hb dX7_innerLine_149 (lv_at hl 1 rfl) ?_
                          refine va_iast hx hb hK hP hD hS 2 2 rfl rfl (ti_in vx_6266 (by omega) (by omega)) dX7_innerLine_151 (fun H locs hP hD hS => ?_)
                          obtain ⟨f_6267, ef_6267⟩ : ∃ g : Nat → Int32, g = upd f_6203 x_6266.toNatClampNeg x_6226 := ⟨_, rfl⟩
                          rw [← ef_6267] at hP hD
                          have hG := hG.trans (lt_eq ef_6267)
                          obtain ⟨hP, hD⟩ := wl2 (ws' := [(arI rM_fresher kM_fresher 8 f_6189), (arI rM_fresh kM_fresh 287 f_6202), (arI rM_read kM_read 90 f_6267), (oc7 oM iM_thrown rM_tape iM_taped iM_size x_6257 x_6258 x_6259 x_6260 x_6261 z_6229 z_6230 iM_trouble rM_letters z_6228 iM_hasCourt rM_r rM_fresh rM_told rM_read rM_st rM_undone rM_kept iM_undos iM_images rM_fresher x_6187 iM_scale iM_night rM_heardRow rM_cutRow iM_breaths iM_cutMany iM_allBreaths rM_trial rM_words iM_fewestBreaths iM_orderMany iM_orderSum iM_leastOrder rM_often iM_setMany iM_someOf iM_allOf iM_allWeight iM_enoughWeight iM_worthSum iM_firstRest iM_leastDrawn), (arI rM_tape kM_tape 900 fM_tape), (arI rM_letters kM_letters 8 f_6262)]) hP hD rfl
                          have q_n1 := ti_cl (x := f_6202 1) rfl (by omega)
                          have pk_f_6267 : POk f_6202 f_6267 := POk.prt hi2_n_6204 ef_6267 (by have q9 := ti_cl (x := x_6266) vx_6266 (by omega); omega) (by have q9 := ti_cl (x := x_6266) vx_6266 (by omega); omega)
                          refine lv_aload_n hx hb dX7_innerLine_152 rfl (lv_at hl 5 rfl) ?_
                          refine va_get (D := (dC, dI)) (ci := 7) (v := .ref rM_fresh) (C := RX7) (T := TX7) (N := 48) hx hb hts inX7 hown hK hP 3 rfl rfl 16 (by decide) (hts _ wd_156) (fun _ h9 => h9) rfl dX7_innerLine_153 ?_
                          refine lv_bipush (v := 45) hx hb dX7_innerLine_156 (by decide) ?_
                          refine lv_iconst (v := 4) hx hb dX7_innerLine_158 (by decide) ?_
                          refine lv_iload_n hx hb dX7_innerLine_159 rfl (lv_at hl 4 rfl) ?_
                          refine lv_imul hx hb dX7_innerLine_160 ?_
                          refine lv_topi (fun x_6268 ex_6268 => ?_)
                          have hG := hG.trans (lt_eq ex_6268)
                          have vx_6268 : x_6268.toInt = 4 * x_6190.toInt := by have q := ti_mul ex_6268 kc_4 rfl (by omega) (by omega); omega
                          refine lv_iadd hx hb dX7_innerLine_161 ?_
                          refine lv_topi (fun x_6269 ex_6269 => ?_)
                          have hG := hG.trans (lt_eq ex_6269)
                          have vx_6269 : x_6269.toInt = 4 * x_6190.toInt + 45 := by have q := ti_add ex_6269 kc_45 vx_6268 (by omega) (by omega); omega
                          refine lv_iload_n hx hb dX7_innerLine_162 rfl (lv_at hl 3 rfl) ?_
                          refine lv_iadd hx hb dX7_innerLine_163 ?_
                          refine lv_topi (fun x_6270 ex_6270 => ?_)
                          have hG := hG.trans (lt_eq ex_6270)
                          have vx_6270 : x_6270.toInt = 4 * x_6190.toInt + z_6191.toInt + 45 := by have q := ti_add ex_6270 vx_6269 rfl (by omega) (by omega); omega
                          refine lv_iload hx hb dX7_innerLine_164 (lv_at hl 0 rfl) ?_
                          refine va_iast hx hb hK hP hD hS 1 1 rfl rfl (ti_in vx_6270 (by omega) (by omega)) dX7_innerLine_166 (fun H locs hP hD hS => ?_)
                          obtain ⟨f_6271, ef_6271⟩ : ∃ g : Nat → Int32, g = upd f_6202 x_6270.toNatClampNeg (0 : Int32) := ⟨_, rfl⟩
                          rw [← ef_6271] at hP hD
                          have hG := hG.trans (lt_eq ef_6271)
                          obtain ⟨hP, hD⟩ := wl2 (ws' := [(arI rM_fresher kM_fresher 8 f_6189), (arI rM_fresh kM_fresh 287 f_6271), (arI rM_read kM_read 90 f_6267), (oc7 oM iM_thrown rM_tape iM_taped iM_size x_6257 x_6258 x_6259 x_6260 x_6261 z_6229 z_6230 iM_trouble rM_letters z_6228 iM_hasCourt rM_r rM_fresh rM_told rM_read rM_st rM_undone rM_kept iM_undos iM_images rM_fresher x_6187 iM_scale iM_night rM_heardRow rM_cutRow iM_breaths iM_cutMany iM_allBreaths rM_trial rM_words iM_fewestBreaths iM_orderMany iM_orderSum iM_leastOrder rM_often iM_setMany iM_someOf iM_allOf iM_allWeight iM_enoughWeight iM_worthSum iM_firstRest iM_leastDrawn), (arI rM_tape kM_tape 900 fM_tape), (arI rM_letters kM_letters 8 f_6262)]) hP hD rfl
                          have pk_f_6271 : POk f_6271 f_6267 := POk.put pk_f_6267 ef_6271 (Or.inr (Or.inr (Or.inr (Or.inr (Or.inr (Or.inl (by have q9 := ti_cl (x := x_6270) vx_6270 (by omega); have q8 := kc_0; omega)))))))
                          have pl_f_6271 := pk_f_6271.lins
                          have nn9 : (f_6202 1).toNatClampNeg = x_6190.toNatClampNeg := by have q1 := ti_cl (x := x_6190) rfl (by omega); have q2 := ti_cl (x := f_6202 1) rfl (by omega); have q3 := ti_cl (x := z_6191) rfl (by omega); omega
                          have in9 : InOk f_6271 f_6267 (f_6271 1).toNatClampNeg (z_6191.toNatClampNeg + 1) p0.toInt := in_step hi3_n_6204 rfl ef_6267 (by have q1 := ti_cl (x := x_6190) rfl (by omega); have q2 := ti_cl (x := f_6202 1) rfl (by omega); have q3 := ti_cl (x := z_6191) rfl (by omega); have q9 := ti_cl (x := x_6266) vx_6266 (by omega); omega) ef_6271 (by have q1 := ti_cl (x := x_6190) rfl (by omega); have q2 := ti_cl (x := f_6202 1) rfl (by omega); have q3 := ti_cl (x := z_6191) rfl (by omega); have q9 := ti_cl (x := x_6270) vx_6270 (by omega); omega) (by omega) (by have q1 := ti_cl (x := x_6190) rfl (by omega); have q2 := ti_cl (x := f_6202 1) rfl (by omega); have q3 := ti_cl (x := z_6191) rfl (by omega); omega) (fun i9 h9 => by rw [nn9]; exact hi2_n_6231 (by omega) i9 (by have q1 := ti_cl (x := x_6190) rfl (by omega); have q2 := ti_cl (x := f_6202 1) rfl (by omega); have q3 := ti_cl (x := z_6191) rfl (by omega); have q4 := ti_cl (x := z_6227) rfl (by omega); omega)) (fun h9 => by have q0 := kc_0; omega) rfl
                          have o1_f_6271 : (f_6271 1).toInt = (f_6202 1).toInt := put_at ef_6271 (by have q9 := ti_cl (x := x_6270) vx_6270 (by omega); omega)
                          have o7_f_6271 : (f_6271 7).toInt = (f_6202 7).toInt := put_at ef_6271 (by have q9 := ti_cl (x := x_6270) vx_6270 (by omega); omega)
                          have o8_f_6271 : (f_6271 8).toInt = (f_6202 8).toInt := put_at ef_6271 (by have q9 := ti_cl (x := x_6270) vx_6270 (by omega); omega)
                          obtain ⟨x_6272, ex_6272⟩ : ∃ z : Int32, z = z_6191 + Int32.ofInt 1 := ⟨_, rfl⟩
                          have hG := hG.trans (lt_eq ex_6272)
                          have vx_6272 : x_6272.toInt = z_6191.toInt + 1 := by have q := ti_add (y := 1) ex_6272 rfl kc_1 (by omega) (by omega); omega
                          refine lv_iinc (v := x_6272) (lv' := [(3, .int x_6272), (6, .int 0), (5, .int x_6226), (4, .int z_6192), (2, .int x_6190), (0, .ref oM), (1, .int p0)]) hx hb dX7_innerLine_167 hl (k := 3) rfl ex_6272.symm (by decide) rfl (fun ls hl => ?_)
                          refine lv_aload_n hx hb dX7_innerLine_170 rfl (lv_at hl 5 rfl) ?_
                          refine va_get (D := (dC, dI)) (ci := 7) (v := .int x_6259) (C := RX7) (T := TX7) (N := 48) hx hb hts inX7 hown hK hP 3 rfl rfl 6 (by decide) (hts _ wd_383) (fun _ h9 => h9) rfl dX7_innerLine_171 ?_
                          refine lv_bipush (v := 44) hx hb dX7_innerLine_174 (by decide) ?_
                          refine lv_icmp_ne (tgt := 183) hx hb dX7_innerLine_176 (by decide) (fun c_6273 => ?_) (fun c_6273 => ?_)
                          · skip
                            have hG := hG.trans (if_neg c_6273)
                            have gc_6273 := ti_ne c_6273 rfl kc_44
                            clear gc_6273
                            refine lv_iconst (v := 0) hx hb dX7_innerLine_183 (by decide) ?_
                            refine lv_istore (lv' := [(4, .int 0), (3, .int x_6272), (6, .int 0), (5, .int x_6226), (2, .int x_6190), (0, .ref oM), (1, .int p0)]) hx hb dX7_innerLine_184 hl (by decide) rfl (fun ls hl => ?_)
                            refine lv_iload hx hb dX7_innerLine_186 (lv_at hl 0 rfl) ?_
                            refine lv_if_eq (tgt := 195) hx hb dX7_innerLine_188 (by decide) (fun _ => ?_) (fun c => absurd c (by decide))
                            refine lv_goto (tgt := 24) hx hb dX7_innerLine_195 (by decide) ?_
                            exact ih_n_6204 x_6272 0 x_6257 x_6258 x_6259 x_6260 x_6261 z_6229 z_6230 z_6228 f_6262 f_6271 f_6267 _ _ _ b_x_6258 b_x_6261 b_z_6228 (by first | omega | decide | assumption) (by first | omega | decide | assumption) (by assumption) (by rw [show x_6272.toNatClampNeg = z_6191.toNatClampNeg + 1 from (by have q1 := ti_cl (x := x_6272) vx_6272 (by omega); have q2 := ti_cl (x := z_6191) rfl (by omega); omega)]; exact in9) (by first | omega | decide | assumption) (fun h9 => by have q0 := kc_0; have q1 := kc_1; omega) e_x_6257_1 (by first | omega | decide | assumption) (fun h9 => by have q0 := kc_0; have q1 := kc_1; have q9 := e_x_6257_2 (by omega); omega) (by omega) hG (hP.sub [3, 4, 5, 1, 2, 0] rfl) (hD.sub [3, 4, 5, 1, 2, 0] (by decide) rfl) hS (lv_sub hl [0, 1, 4, 5, 6] rfl)
                          · skip
                            have hG := hG.trans (if_pos c_6273)
                            have gc_6273 := ti_eq c_6273 rfl kc_44
                            refine lv_iconst (v := 1) hx hb dX7_innerLine_179 (by decide) ?_
                            refine lv_goto (tgt := 184) hx hb dX7_innerLine_180 (by decide) ?_
                            refine lv_istore (lv' := [(4, .int 1), (3, .int x_6272), (6, .int 0), (5, .int x_6226), (2, .int x_6190), (0, .ref oM), (1, .int p0)]) hx hb dX7_innerLine_184 hl (by decide) rfl (fun ls hl => ?_)
                            refine lv_iload hx hb dX7_innerLine_186 (lv_at hl 0 rfl) ?_
                            refine lv_if_eq (tgt := 195) hx hb dX7_innerLine_188 (by decide) (fun c => absurd c (by decide)) (fun _ => ?_)
                            refine lv_aload_n hx hb dX7_innerLine_191 rfl (lv_at hl 5 rfl) ?_
                            have hFc := va_free (wc := [(oc7 oM iM_thrown rM_tape iM_taped iM_size x_6257 x_6258 x_6259 x_6260 x_6261 z_6229 z_6230 iM_trouble rM_letters z_6228 iM_hasCourt rM_r rM_fresh rM_told rM_read rM_st rM_undone rM_kept iM_undos iM_images rM_fresher x_6187 iM_scale iM_night rM_heardRow rM_cutRow iM_breaths iM_cutMany iM_allBreaths rM_trial rM_words iM_fewestBreaths iM_orderMany iM_orderSum iM_leastOrder rM_often iM_setMany iM_someOf iM_allOf iM_allWeight iM_enoughWeight iM_worthSum iM_firstRest iM_leastDrawn), (arI rM_tape kM_tape 900 fM_tape), (arI rM_letters kM_letters 8 f_6262)]) hD hS hA [3, 4, 5] rfl
                            refine va_callv (va_runV (As := []) (rest := []) ⟨hx, hb, hml, hown, hts⟩ (tX7_next l dC dI _ oM iM_thrown rM_tape fM_tape kM_tape iM_taped iM_size x_6257 x_6258 x_6259 x_6260 x_6261 z_6229 z_6230 iM_trouble rM_letters f_6262 kM_letters z_6228 iM_hasCourt rM_r rM_fresh rM_told rM_read rM_st rM_undone rM_kept iM_undos iM_images rM_fresher x_6187 iM_scale iM_night rM_heardRow rM_cutRow iM_breaths iM_cutMany iM_allBreaths rM_trial rM_words iM_fewestBreaths iM_orderMany iM_orderSum iM_leastOrder rM_often iM_setMany iM_someOf iM_allOf iM_allWeight iM_enoughWeight iM_worthSum iM_firstRest iM_leastDrawn (by first | omega | decide) (by first | omega | decide) (by first | exact b_x_6258 | omega | decide) (by first | exact b_x_6261 | omega | decide) (by first | exact b_z_6228 | omega | decide) (by first | omega | decide) (by first | omega | decide) (by first | omega | decide) (by first | omega | decide) (by first | omega | decide) (by first | omega | decide) (by first | assumption | exact (fun h9 => by have q0 := kc_0; have q1 := kc_1; omega))) (cwV 0 hts (wd_V wd_400 wd_401 wd_402 wd_5 (wd_c wd_403)) rfl rfl rfl (by decide +kernel) ⟨Nat.le_of_ble_eq_true rfl, Nat.le_of_ble_eq_true rfl⟩) ⟨Pw.fb, va_recv hK hP (ci := 7) (q0 := 3) rfl rfl, fun U hU hW => Pw.to (hP.sub [3, 4, 5] rfl) (hD.sub [3, 4, 5] (by decide) rfl) (hK.sub [3, 4] rfl) hE hS hFc hU hW⟩ rfl rfl hl.1 rfl (lv_room (Nat.le_of_ble_eq_true rfl)) dX7_innerLine_192 ⟨Nat.le_of_ble_eq_true rfl, Nat.le_of_ble_eq_true rfl⟩) hS (fun q _ h => hFc q h) hFc (fun u t H locs ht hvm hw hB hz1 hk1 hS => ?_)
                            obtain ⟨x_6276, x_6277, x_6278, x_6279, x_6280, f_6281, b_x_6277, b_x_6280, e_x_6276_0, e_x_6276_1, e_x_6276_2, e_x_6276_3, hB⟩ := hB
                            obtain ⟨hP, hD, hK⟩ := Bw.go (ws' := [(arI rM_fresher kM_fresher 8 f_6189), (arI rM_fresh kM_fresh 287 f_6271), (arI rM_read kM_read 90 f_6267), (oc7 oM iM_thrown rM_tape iM_taped iM_size x_6276 x_6277 x_6278 x_6279 x_6280 z_6229 z_6230 iM_trouble rM_letters z_6228 iM_hasCourt rM_r rM_fresh rM_told rM_read rM_st rM_undone rM_kept iM_undos iM_images rM_fresher x_6187 iM_scale iM_night rM_heardRow rM_cutRow iM_breaths iM_cutMany iM_allBreaths rM_trial rM_words iM_fewestBreaths iM_orderMany iM_orderSum iM_leastOrder rM_often iM_setMany iM_someOf iM_allOf iM_allWeight iM_enoughWeight iM_worthSum iM_firstRest iM_leastDrawn), (arI rM_tape kM_tape 900 fM_tape), (arI rM_letters kM_letters 8 f_6281)]) (tys' := [(kM_fresher, .int), (kM_fresh, .int), (kM_read, .int), (kM_tape, .int), (kM_letters, .int)]) hB rfl ht hvm hP hD hK [3, 4, 5] [0, 1, 2] rfl (by decide) (by decide) [0, 1, 2] hk1 hFc rfl rfl rfl
                            clear hz1 hk1 hvm ht hB
                            have hG := hG.trans (un6_eq e_x_6276_3)
                            clear e_x_6257_1
                            clear e_x_6257_2
                            refine lv_goto (tgt := 24) hx hb dX7_innerLine_195 (by decide) ?_
                            exact ih_n_6204 x_6272 1 x_6276 x_6277 x_6278 x_6279 x_6280 z_6229 z_6230 z_6228 f_6281 f_6271 f_6267 _ _ _ b_x_6277 b_x_6280 b_z_6228 (by first | omega | decide | assumption) (by first | omega | decide | assumption) (by assumption) (by rw [show x_6272.toNatClampNeg = z_6191.toNatClampNeg + 1 from (by have q1 := ti_cl (x := x_6272) vx_6272 (by omega); have q2 := ti_cl (x := z_6191) rfl (by omega); omega)]; exact in9) (by first | omega | decide | assumption) (fun h9 => by have q0 := kc_0; have q1 := kc_1; omega) e_x_6276_1 (by first | omega | decide | assumption) (fun h9 => by have q0 := kc_0; have q1 := kc_1; have q9 := e_x_6276_2 (by omega); omega) (by omega) hG (hP.sub [3, 4, 5, 1, 2, 0] rfl) (hD.sub [3, 4, 5, 1, 2, 0] (by decide) rfl) hS (lv_sub hl [0, 1, 4, 5, 6] rfl)
                        · skip
                          have hG := hG.trans (if_neg c_6264)
                          have gc_6264 := ti_ne c_6264 rfl kc_0
                          replace gc_6264 : z_6228.toInt + 1 ≤ 0 := by omega
                          exfalso; clear hG; omega
                      · skip
                        have hG := hG.trans (if_pos c_6263)
                        have gc_6263 := ti_eq c_6263 rfl kc_3
                        have h_6282 := hic (by omega)
                        clear hic
                        refine lv_aload_n hx hb dX7_innerLine_119 rfl (lv_at hl 5 rfl) ?_
                        refine lv_iconst (v := 1) hx hb dX7_innerLine_120 (by decide) ?_
                        refine lv_bipush (v := 9) hx hb dX7_innerLine_121 (by decide) ?_
                        have hFc := va_free (wc := [(oc7 oM iM_thrown rM_tape iM_taped iM_size x_6257 x_6258 x_6259 x_6260 x_6261 z_6229 z_6230 iM_trouble rM_letters z_6228 iM_hasCourt rM_r rM_fresh rM_told rM_read rM_st rM_undone rM_kept iM_undos iM_images rM_fresher x_6187 iM_scale iM_night rM_heardRow rM_cutRow iM_breaths iM_cutMany iM_allBreaths rM_trial rM_words iM_fewestBreaths iM_orderMany iM_orderSum iM_leastOrder rM_often iM_setMany iM_someOf iM_allOf iM_allWeight iM_enoughWeight iM_worthSum iM_firstRest iM_leastDrawn), (arI rM_tape kM_tape 900 fM_tape), (arI rM_letters kM_letters 8 f_6262)]) hD hS hA [3, 4, 5] rfl
                        refine va_calli (va_runV (As := [.int 1, .int 9]) (rest := []) ⟨hx, hb, hml, hown, hts⟩ (tX7_number l dC dI _ oM iM_thrown rM_tape fM_tape kM_tape iM_taped iM_size x_6257 x_6258 x_6259 x_6260 x_6261 z_6229 z_6230 iM_trouble rM_letters f_6262 kM_letters z_6228 iM_hasCourt rM_r rM_fresh rM_told rM_read rM_st rM_undone rM_kept iM_undos iM_images rM_fresher x_6187 iM_scale iM_night rM_heardRow rM_cutRow iM_breaths iM_cutMany iM_allBreaths rM_trial rM_words iM_fewestBreaths iM_orderMany iM_orderSum iM_leastOrder rM_often iM_setMany iM_someOf iM_allOf iM_allWeight iM_enoughWeight iM_worthSum iM_firstRest iM_leastDrawn 1 9 (by first | omega | decide) (by first | omega | decide) (by first | exact b_x_6258 | omega | decide) (by first | exact b_x_6261 | omega | decide) (by first | exact b_z_6228 | omega | decide) (by first | omega | decide) (by first | omega | decide) (by first | omega | decide) (by first | omega | decide) (by first | omega | decide) (by first | omega | decide) (by first | assumption | exact (fun h9 => by have q0 := kc_0; have q1 := kc_1; omega)) (by first | omega | decide | assumption | (have q0 := kc_0; have q1 := kc_1; have q2 := kc_9; omega) | (intro h; exact absurd h (by decide)))) (cwV 2 hts (wd_V wd_446 wd_447 wd_448 wd_5 (wd_c wd_449)) rfl rfl rfl (by decide +kernel) ⟨Nat.le_of_ble_eq_true rfl, Nat.le_of_ble_eq_true rfl⟩) ⟨Pw.fb, va_recv hK hP (ci := 7) (q0 := 3) rfl rfl, fun U hU hW => Pw.to (hP.sub [3, 4, 5] rfl) (hD.sub [3, 4, 5] (by decide) rfl) (hK.sub [3, 4] rfl) hE hS hFc hU hW⟩ rfl rfl hl.1 rfl (lv_room (Nat.le_of_ble_eq_true rfl)) dX7_innerLine_123 ⟨Nat.le_of_ble_eq_true rfl, Nat.le_of_ble_eq_true rfl⟩) hS (fun q _ h => hFc q h) hFc (fun r u t H locs ht hvm hw hB hz1 hk1 hS => ?_)
                        have hru9 := hw.2
                        have hw := hw.1
                        obtain ⟨x_6283, x_6284, x_6285, x_6286, x_6287, x_6288, x_6289, x_6290, f_6291, b_x_6284, b_x_6287, b_x_6290, e_x_6283_0, e_x_6283_1, e_x_6283_2, e_x_6283_3, e_x_6283_4, hB⟩ := hB
                        obtain ⟨hP, hD, hK⟩ := Bw.go (ws' := [(arI rM_fresher kM_fresher 8 f_6189), (arI rM_fresh kM_fresh 287 f_6202), (arI rM_read kM_read 90 f_6203), (oc7 oM iM_thrown rM_tape iM_taped iM_size x_6283 x_6284 x_6285 x_6286 x_6287 x_6288 x_6289 iM_trouble rM_letters x_6290 iM_hasCourt rM_r rM_fresh rM_told rM_read rM_st rM_undone rM_kept iM_undos iM_images rM_fresher x_6187 iM_scale iM_night rM_heardRow rM_cutRow iM_breaths iM_cutMany iM_allBreaths rM_trial rM_words iM_fewestBreaths iM_orderMany iM_orderSum iM_leastOrder rM_often iM_setMany iM_someOf iM_allOf iM_allWeight iM_enoughWeight iM_worthSum iM_firstRest iM_leastDrawn), (arI rM_tape kM_tape 900 fM_tape), (arI rM_letters kM_letters 8 f_6291)]) (tys' := [(kM_fresher, .int), (kM_fresh, .int), (kM_read, .int), (kM_tape, .int), (kM_letters, .int)]) hB rfl ht hvm hP hD hK [3, 4, 5] [0, 1, 2] rfl (by decide) (by decide) [0, 1, 2] hk1 hFc rfl rfl rfl
                        clear hz1 hk1 hvm ht hB
                        rw [← hru9] at e_x_6283_4
                        obtain ⟨x_6292, rfl⟩ : ∃ z, z = r := ⟨_, rfl⟩
                        have hG := hG.trans (un10_eq e_x_6283_4)
                        have lx_6292 := hw.2
                        have kl_1 := kc_1
                        have kl_9 := kc_9
                        clear e_x_6257_1
                        clear e_x_6257_2
                        refine lv_goto (tgt := 130) hx hb dX7_innerLine_126 (by decide) ?_
                        refine lv_istore (lv' := [(6, .int x_6292), (5, .int x_6226), (4, .int z_6192), (3, .int z_6191), (2, .int x_6190), (0, .ref oM), (1, .int p0)]) hx hb dX7_innerLine_130 hl (by decide) rfl (fun ls hl => ?_)
                        refine lv_aload_n hx hb dX7_innerLine_132 rfl (lv_at hl 5 rfl) ?_
                        refine va_get (D := (dC, dI)) (ci := 7) (v := .int x_6290) (C := RX7) (T := TX7) (N := 48) hx hb hts inX7 hown hK hP 3 rfl rfl 13 (by decide) (hts _ wd_380) (fun _ h9 => h9) rfl dX7_innerLine_133 ?_
                        refine lv_if_eq (tgt := 140) hx hb dX7_innerLine_136 (by decide) (fun c_6293 => ?_) (fun c_6293 => ?_)
                        · skip
                          have hG := hG.trans (if_pos c_6293)
                          have gc_6293 := ti_eq c_6293 rfl kc_0
                          refine lv_aload_n hx hb dX7_innerLine_140 rfl (lv_at hl 5 rfl) ?_
                          refine va_get (D := (dC, dI)) (ci := 7) (v := .ref rM_read) (C := RX7) (T := TX7) (N := 48) hx hb hts inX7 hown hK hP 3 rfl rfl 18 (by decide) (hts _ wd_158) (fun _ h9 => h9) rfl dX7_innerLine_141 ?_
                          refine lv_iconst (v := 4) hx hb dX7_innerLine_144 (by decide) ?_
                          refine lv_iload_n hx hb dX7_innerLine_145 rfl (lv_at hl 4 rfl) ?_
                          refine lv_imul hx hb dX7_innerLine_146 ?_
                          refine lv_topi (fun x_6294 ex_6294 => ?_)
                          have hG := hG.trans (lt_eq ex_6294)
                          have vx_6294 : x_6294.toInt = 4 * x_6190.toInt := by have q := ti_mul ex_6294 kc_4 rfl (by omega) (by omega); omega
                          refine lv_iload_n hx hb dX7_innerLine_147 rfl (lv_at hl 3 rfl) ?_
                          refine lv_iadd hx hb dX7_innerLine_148 ?_
                          refine lv_topi (fun x_6295 ex_6295 => ?_)
                          have hG := hG.trans (lt_eq ex_6295)
                          have vx_6295 : x_6295.toInt = 4 * x_6190.toInt + z_6191.toInt := by have q := ti_add ex_6295 vx_6294 rfl (by omega) (by omega); omega
                          refine lv_iload hx hb dX7_innerLine_149 (lv_at hl 1 rfl) ?_
                          refine va_iast hx hb hK hP hD hS 2 2 rfl rfl (ti_in vx_6295 (by omega) (by omega)) dX7_innerLine_151 (fun H locs hP hD hS => ?_)
                          obtain ⟨f_6296, ef_6296⟩ : ∃ g : Nat → Int32, g = upd f_6203 x_6295.toNatClampNeg x_6226 := ⟨_, rfl⟩
                          rw [← ef_6296] at hP hD
                          have hG := hG.trans (lt_eq ef_6296)
                          obtain ⟨hP, hD⟩ := wl2 (ws' := [(arI rM_fresher kM_fresher 8 f_6189), (arI rM_fresh kM_fresh 287 f_6202), (arI rM_read kM_read 90 f_6296), (oc7 oM iM_thrown rM_tape iM_taped iM_size x_6283 x_6284 x_6285 x_6286 x_6287 x_6288 x_6289 iM_trouble rM_letters x_6290 iM_hasCourt rM_r rM_fresh rM_told rM_read rM_st rM_undone rM_kept iM_undos iM_images rM_fresher x_6187 iM_scale iM_night rM_heardRow rM_cutRow iM_breaths iM_cutMany iM_allBreaths rM_trial rM_words iM_fewestBreaths iM_orderMany iM_orderSum iM_leastOrder rM_often iM_setMany iM_someOf iM_allOf iM_allWeight iM_enoughWeight iM_worthSum iM_firstRest iM_leastDrawn), (arI rM_tape kM_tape 900 fM_tape), (arI rM_letters kM_letters 8 f_6291)]) hP hD rfl
                          have q_n1 := ti_cl (x := f_6202 1) rfl (by omega)
                          have pk_f_6296 : POk f_6202 f_6296 := POk.prt hi2_n_6204 ef_6296 (by have q9 := ti_cl (x := x_6295) vx_6295 (by omega); omega) (by have q9 := ti_cl (x := x_6295) vx_6295 (by omega); omega)
                          refine lv_aload_n hx hb dX7_innerLine_152 rfl (lv_at hl 5 rfl) ?_
                          refine va_get (D := (dC, dI)) (ci := 7) (v := .ref rM_fresh) (C := RX7) (T := TX7) (N := 48) hx hb hts inX7 hown hK hP 3 rfl rfl 16 (by decide) (hts _ wd_156) (fun _ h9 => h9) rfl dX7_innerLine_153 ?_
                          refine lv_bipush (v := 45) hx hb dX7_innerLine_156 (by decide) ?_
                          refine lv_iconst (v := 4) hx hb dX7_innerLine_158 (by decide) ?_
                          refine lv_iload_n hx hb dX7_innerLine_159 rfl (lv_at hl 4 rfl) ?_
                          refine lv_imul hx hb dX7_innerLine_160 ?_
                          refine lv_topi (fun x_6297 ex_6297 => ?_)
                          have hG := hG.trans (lt_eq ex_6297)
                          have vx_6297 : x_6297.toInt = 4 * x_6190.toInt := by have q := ti_mul ex_6297 kc_4 rfl (by omega) (by omega); omega
                          refine lv_iadd hx hb dX7_innerLine_161 ?_
                          refine lv_topi (fun x_6298 ex_6298 => ?_)
                          have hG := hG.trans (lt_eq ex_6298)
                          have vx_6298 : x_6298.toInt = 4 * x_6190.toInt + 45 := by have q := ti_add ex_6298 kc_45 vx_6297 (by omega) (by omega); omega
                          refine lv_iload_n hx hb dX7_innerLine_162 rfl (lv_at hl 3 rfl) ?_
                          refine lv_iadd hx hb dX7_innerLine_163 ?_
                          refine lv_topi (fun x_6299 ex_6299 => ?_)
                          have hG := hG.trans (lt_eq ex_6299)
                          have vx_6299 : x_6299.toInt = 4 * x_6190.toInt + z_6191.toInt + 45 := by have q := ti_add ex_6299 vx_6298 rfl (by omega) (by omega); omega
                          refine lv_iload hx hb dX7_innerLine_164 (lv_at hl 0 rfl) ?_
                          refine va_iast hx hb hK hP hD hS 1 1 rfl rfl (ti_in vx_6299 (by omega) (by omega)) dX7_innerLine_166 (fun H locs hP hD hS => ?_)
                          obtain ⟨f_6300, ef_6300⟩ : ∃ g : Nat → Int32, g = upd f_6202 x_6299.toNatClampNeg x_6292 := ⟨_, rfl⟩
                          rw [← ef_6300] at hP hD
                          have hG := hG.trans (lt_eq ef_6300)
                          obtain ⟨hP, hD⟩ := wl2 (ws' := [(arI rM_fresher kM_fresher 8 f_6189), (arI rM_fresh kM_fresh 287 f_6300), (arI rM_read kM_read 90 f_6296), (oc7 oM iM_thrown rM_tape iM_taped iM_size x_6283 x_6284 x_6285 x_6286 x_6287 x_6288 x_6289 iM_trouble rM_letters x_6290 iM_hasCourt rM_r rM_fresh rM_told rM_read rM_st rM_undone rM_kept iM_undos iM_images rM_fresher x_6187 iM_scale iM_night rM_heardRow rM_cutRow iM_breaths iM_cutMany iM_allBreaths rM_trial rM_words iM_fewestBreaths iM_orderMany iM_orderSum iM_leastOrder rM_often iM_setMany iM_someOf iM_allOf iM_allWeight iM_enoughWeight iM_worthSum iM_firstRest iM_leastDrawn), (arI rM_tape kM_tape 900 fM_tape), (arI rM_letters kM_letters 8 f_6291)]) hP hD rfl
                          have pk_f_6300 : POk f_6300 f_6296 := POk.put pk_f_6296 ef_6300 (Or.inr (Or.inr (Or.inr (Or.inr (Or.inr (Or.inl (by have q9 := ti_cl (x := x_6299) vx_6299 (by omega); omega)))))))
                          have pl_f_6300 := pk_f_6300.lins
                          have nn9 : (f_6202 1).toNatClampNeg = x_6190.toNatClampNeg := by have q1 := ti_cl (x := x_6190) rfl (by omega); have q2 := ti_cl (x := f_6202 1) rfl (by omega); have q3 := ti_cl (x := z_6191) rfl (by omega); omega
                          have in9 : InOk f_6300 f_6296 (f_6300 1).toNatClampNeg (z_6191.toNatClampNeg + 1) p0.toInt := in_step hi3_n_6204 rfl ef_6296 (by have q1 := ti_cl (x := x_6190) rfl (by omega); have q2 := ti_cl (x := f_6202 1) rfl (by omega); have q3 := ti_cl (x := z_6191) rfl (by omega); have q9 := ti_cl (x := x_6295) vx_6295 (by omega); omega) ef_6300 (by have q1 := ti_cl (x := x_6190) rfl (by omega); have q2 := ti_cl (x := f_6202 1) rfl (by omega); have q3 := ti_cl (x := z_6191) rfl (by omega); have q9 := ti_cl (x := x_6299) vx_6299 (by omega); omega) (by omega) (by have q1 := ti_cl (x := x_6190) rfl (by omega); have q2 := ti_cl (x := f_6202 1) rfl (by omega); have q3 := ti_cl (x := z_6191) rfl (by omega); omega) (fun i9 h9 => by rw [nn9]; exact hi2_n_6231 (by omega) i9 (by have q1 := ti_cl (x := x_6190) rfl (by omega); have q2 := ti_cl (x := f_6202 1) rfl (by omega); have q3 := ti_cl (x := z_6191) rfl (by omega); have q4 := ti_cl (x := z_6227) rfl (by omega); omega)) (fun h9 => by have q0 := kc_0; omega) rfl
                          have o1_f_6300 : (f_6300 1).toInt = (f_6202 1).toInt := put_at ef_6300 (by have q9 := ti_cl (x := x_6299) vx_6299 (by omega); omega)
                          have o7_f_6300 : (f_6300 7).toInt = (f_6202 7).toInt := put_at ef_6300 (by have q9 := ti_cl (x := x_6299) vx_6299 (by omega); omega)
                          have o8_f_6300 : (f_6300 8).toInt = (f_6202 8).toInt := put_at ef_6300 (by have q9 := ti_cl (x := x_6299) vx_6299 (by omega); omega)
                          obtain ⟨x_6301, ex_6301⟩ : ∃ z : Int32, z = z_6191 + Int32.ofInt 1 := ⟨_, rfl⟩
                          have hG := hG.trans (lt_eq ex_6301)
                          have vx_6301 : x_6301.toInt = z_6191.toInt + 1 := by have q := ti_add (y := 1) ex_6301 rfl kc_1 (by omega) (by omega); omega
                          refine lv_iinc (v := x_6301) (lv' := [(3, .int x_6301), (6, .int x_6292), (5, .int x_6226), (4, .int z_6192), (2, .int x_6190), (0, .ref oM), (1, .int p0)]) hx hb dX7_innerLine_167 hl (k := 3) rfl ex_6301.symm (by decide) rfl (fun ls hl => ?_)
                          refine lv_aload_n hx hb dX7_innerLine_170 rfl (lv_at hl 5 rfl) ?_
                          refine va_get (D := (dC, dI)) (ci := 7) (v := .int x_6285) (C := RX7) (T := TX7) (N := 48) hx hb hts inX7 hown hK hP 3 rfl rfl 6 (by decide) (hts _ wd_383) (fun _ h9 => h9) rfl dX7_innerLine_171 ?_
                          refine lv_bipush (v := 44) hx hb dX7_innerLine_174 (by decide) ?_
                          refine lv_icmp_ne (tgt := 183) hx hb dX7_innerLine_176 (by decide) (fun c_6302 => ?_) (fun c_6302 => ?_)
                          · skip
                            have hG := hG.trans (if_neg c_6302)
                            have gc_6302 := ti_ne c_6302 rfl kc_44
                            clear gc_6302
                            refine lv_iconst (v := 0) hx hb dX7_innerLine_183 (by decide) ?_
                            refine lv_istore (lv' := [(4, .int 0), (3, .int x_6301), (6, .int x_6292), (5, .int x_6226), (2, .int x_6190), (0, .ref oM), (1, .int p0)]) hx hb dX7_innerLine_184 hl (by decide) rfl (fun ls hl => ?_)
                            refine lv_iload hx hb dX7_innerLine_186 (lv_at hl 0 rfl) ?_
                            refine lv_if_eq (tgt := 195) hx hb dX7_innerLine_188 (by decide) (fun _ => ?_) (fun c => absurd c (by decide))
                            refine lv_goto (tgt := 24) hx hb dX7_innerLine_195 (by decide) ?_
                            exact ih_n_6204 x_6301 0 x_6283 x_6284 x_6285 x_6286 x_6287 x_6288 x_6289 x_6290 f_6291 f_6300 f_6296 _ _ _ b_x_6284 b_x_6287 b_x_6290 (by first | omega | decide | assumption) (by first | omega | decide | assumption) (by assumption) (by rw [show x_6301.toNatClampNeg = z_6191.toNatClampNeg + 1 from (by have q1 := ti_cl (x := x_6301) vx_6301 (by omega); have q2 := ti_cl (x := z_6191) rfl (by omega); omega)]; exact in9) (by first | omega | decide | assumption) (fun h9 => by have q0 := kc_0; have q1 := kc_1; omega) e_x_6283_1 (by first | omega | decide | assumption) (fun h9 => by have q0 := kc_0; have q1 := kc_1; have q9 := e_x_6283_3 (by omega); omega) (by omega) hG (hP.sub [3, 4, 5, 1, 2, 0] rfl) (hD.sub [3, 4, 5, 1, 2, 0] (by decide) rfl) hS (lv_sub hl [0, 1, 4, 5, 6] rfl)
                          · skip
                            have hG := hG.trans (if_pos c_6302)
                            have gc_6302 := ti_eq c_6302 rfl kc_44
                            refine lv_iconst (v := 1) hx hb dX7_innerLine_179 (by decide) ?_
                            refine lv_goto (tgt := 184) hx hb dX7_innerLine_180 (by decide) ?_
                            refine lv_istore (lv' := [(4, .int 1), (3, .int x_6301), (6, .int x_6292), (5, .int x_6226), (2, .int x_6190), (0, .ref oM), (1, .int p0)]) hx hb dX7_innerLine_184 hl (by decide) rfl (fun ls hl => ?_)
                            refine lv_iload hx hb dX7_innerLine_186 (lv_at hl 0 rfl) ?_
                            refine lv_if_eq (tgt := 195) hx hb dX7_innerLine_188 (by decide) (fun c => absurd c (by decide)) (fun _ => ?_)
                            refine lv_aload_n hx hb dX7_innerLine_191 rfl (lv_at hl 5 rfl) ?_
                            have hFc := va_free (wc := [(oc7 oM iM_thrown rM_tape iM_taped iM_size x_6283 x_6284 x_6285 x_6286 x_6287 x_6288 x_6289 iM_trouble rM_letters x_6290 iM_hasCourt rM_r rM_fresh rM_told rM_read rM_st rM_undone rM_kept iM_undos iM_images rM_fresher x_6187 iM_scale iM_night rM_heardRow rM_cutRow iM_breaths iM_cutMany iM_allBreaths rM_trial rM_words iM_fewestBreaths iM_orderMany iM_orderSum iM_leastOrder rM_often iM_setMany iM_someOf iM_allOf iM_allWeight iM_enoughWeight iM_worthSum iM_firstRest iM_leastDrawn), (arI rM_tape kM_tape 900 fM_tape), (arI rM_letters kM_letters 8 f_6291)]) hD hS hA [3, 4, 5] rfl
                            refine va_callv (va_runV (As := []) (rest := []) ⟨hx, hb, hml, hown, hts⟩ (tX7_next l dC dI _ oM iM_thrown rM_tape fM_tape kM_tape iM_taped iM_size x_6283 x_6284 x_6285 x_6286 x_6287 x_6288 x_6289 iM_trouble rM_letters f_6291 kM_letters x_6290 iM_hasCourt rM_r rM_fresh rM_told rM_read rM_st rM_undone rM_kept iM_undos iM_images rM_fresher x_6187 iM_scale iM_night rM_heardRow rM_cutRow iM_breaths iM_cutMany iM_allBreaths rM_trial rM_words iM_fewestBreaths iM_orderMany iM_orderSum iM_leastOrder rM_often iM_setMany iM_someOf iM_allOf iM_allWeight iM_enoughWeight iM_worthSum iM_firstRest iM_leastDrawn (by first | omega | decide) (by first | omega | decide) (by first | exact b_x_6284 | omega | decide) (by first | exact b_x_6287 | omega | decide) (by first | exact b_x_6290 | omega | decide) (by first | omega | decide) (by first | omega | decide) (by first | omega | decide) (by first | omega | decide) (by first | omega | decide) (by first | omega | decide) (by first | assumption | exact (fun h9 => by have q0 := kc_0; have q1 := kc_1; omega))) (cwV 0 hts (wd_V wd_400 wd_401 wd_402 wd_5 (wd_c wd_403)) rfl rfl rfl (by decide +kernel) ⟨Nat.le_of_ble_eq_true rfl, Nat.le_of_ble_eq_true rfl⟩) ⟨Pw.fb, va_recv hK hP (ci := 7) (q0 := 3) rfl rfl, fun U hU hW => Pw.to (hP.sub [3, 4, 5] rfl) (hD.sub [3, 4, 5] (by decide) rfl) (hK.sub [3, 4] rfl) hE hS hFc hU hW⟩ rfl rfl hl.1 rfl (lv_room (Nat.le_of_ble_eq_true rfl)) dX7_innerLine_192 ⟨Nat.le_of_ble_eq_true rfl, Nat.le_of_ble_eq_true rfl⟩) hS (fun q _ h => hFc q h) hFc (fun u t H locs ht hvm hw hB hz1 hk1 hS => ?_)
                            obtain ⟨x_6305, x_6306, x_6307, x_6308, x_6309, f_6310, b_x_6306, b_x_6309, e_x_6305_0, e_x_6305_1, e_x_6305_2, e_x_6305_3, hB⟩ := hB
                            obtain ⟨hP, hD, hK⟩ := Bw.go (ws' := [(arI rM_fresher kM_fresher 8 f_6189), (arI rM_fresh kM_fresh 287 f_6300), (arI rM_read kM_read 90 f_6296), (oc7 oM iM_thrown rM_tape iM_taped iM_size x_6305 x_6306 x_6307 x_6308 x_6309 x_6288 x_6289 iM_trouble rM_letters x_6290 iM_hasCourt rM_r rM_fresh rM_told rM_read rM_st rM_undone rM_kept iM_undos iM_images rM_fresher x_6187 iM_scale iM_night rM_heardRow rM_cutRow iM_breaths iM_cutMany iM_allBreaths rM_trial rM_words iM_fewestBreaths iM_orderMany iM_orderSum iM_leastOrder rM_often iM_setMany iM_someOf iM_allOf iM_allWeight iM_enoughWeight iM_worthSum iM_firstRest iM_leastDrawn), (arI rM_tape kM_tape 900 fM_tape), (arI rM_letters kM_letters 8 f_6310)]) (tys' := [(kM_fresher, .int), (kM_fresh, .int), (kM_read, .int), (kM_tape, .int), (kM_letters, .int)]) hB rfl ht hvm hP hD hK [3, 4, 5] [0, 1, 2] rfl (by decide) (by decide) [0, 1, 2] hk1 hFc rfl rfl rfl
                            clear hz1 hk1 hvm ht hB
                            have hG := hG.trans (un6_eq e_x_6305_3)
                            clear e_x_6283_1
                            clear e_x_6283_3
                            refine lv_goto (tgt := 24) hx hb dX7_innerLine_195 (by decide) ?_
                            exact ih_n_6204 x_6301 1 x_6305 x_6306 x_6307 x_6308 x_6309 x_6288 x_6289 x_6290 f_6310 f_6300 f_6296 _ _ _ b_x_6306 b_x_6309 b_x_6290 (by first | omega | decide | assumption) (by first | omega | decide | assumption) (by assumption) (by rw [show x_6301.toNatClampNeg = z_6191.toNatClampNeg + 1 from (by have q1 := ti_cl (x := x_6301) vx_6301 (by omega); have q2 := ti_cl (x := z_6191) rfl (by omega); omega)]; exact in9) (by first | omega | decide | assumption) (fun h9 => by have q0 := kc_0; have q1 := kc_1; omega) e_x_6305_1 (by first | omega | decide | assumption) (fun h9 => by have q0 := kc_0; have q1 := kc_1; have q9 := e_x_6305_2 (by omega); omega) (by omega) hG (hP.sub [3, 4, 5, 1, 2, 0] rfl) (hD.sub [3, 4, 5, 1, 2, 0] (by decide) rfl) hS (lv_sub hl [0, 1, 4, 5, 6] rfl)
                        · skip
                          have hG := hG.trans (if_neg c_6293)
                          have gc_6293 := ti_ne c_6293 rfl kc_0
                          replace gc_6293 : (-1) * x_6290.toInt + 1 ≤ 0 := by omega
                          exact W.vret hx hb hr (fun t ht hW => ⟨⟨0, rfl, trivial, ⟨x_6283, x_6284, x_6285, x_6286, x_6287, x_6288, x_6289, x_6290, x_6187, f_6291, f_6202, f_6203, f_6189, b_x_6284, b_x_6287, b_x_6290, (by first | assumption | (have q0 := kc_0; have q1 := kc_1; omega)), e_x_6283_1, (by first | assumption | (have q0 := kc_0; have q1 := kc_1; omega)), (fun h9 => by have q0 := kc_0; have q1 := kc_1; omega), (by first | assumption | (have q0 := kc_0; have q1 := kc_1; omega)), hG, Bw.to (hP.sub [3, 4, 5, 1, 2, 0] rfl) (hD.sub [3, 4, 5, 1, 2, 0] (by decide) rfl) (hK.sub [3, 4, 1, 2, 0] rfl) ht hW⟩⟩, hS.F ht⟩) hS.2.2 dX7_innerLine_139
                    · skip
                      have hG := hG.trans (if_pos c_6256)
                      have gc_6256 := ti_eq c_6256 rfl kc_4
                      refine lv_aload_n hx hb dX7_innerLine_101 rfl (lv_at hl 5 rfl) ?_
                      refine lv_iconst (v := 5) hx hb dX7_innerLine_102 (by decide) ?_
                      refine lv_aload_n hx hb dX7_innerLine_103 rfl (lv_at hl 5 rfl) ?_
                      refine va_get (D := (dC, dI)) (ci := 7) (v := .int z_6193) (C := RX7) (T := TX7) (N := 48) hx hb hts inX7 hown hK hP 2 rfl rfl 4 (by decide) (hts _ wd_384) (fun _ h9 => h9) rfl dX7_innerLine_104 ?_
                      have hFc := va_free (wc := [(oc7 oM iM_thrown rM_tape iM_taped iM_size z_6193 z_6194 z_6195 z_6196 z_6197 z_6229 z_6230 iM_trouble rM_letters z_6228 iM_hasCourt rM_r rM_fresh rM_told rM_read rM_st rM_undone rM_kept iM_undos iM_images rM_fresher x_6187 iM_scale iM_night rM_heardRow rM_cutRow iM_breaths iM_cutMany iM_allBreaths rM_trial rM_words iM_fewestBreaths iM_orderMany iM_orderSum iM_leastOrder rM_often iM_setMany iM_someOf iM_allOf iM_allWeight iM_enoughWeight iM_worthSum iM_firstRest iM_leastDrawn)]) hD hS hA [2] rfl
                      refine va_callv (va_runV (As := [.int 5, .int z_6193]) (rest := []) ⟨hx, hb, hml, hown, hts⟩ (tX7_wrong l dC dI _ oM iM_thrown rM_tape iM_taped iM_size z_6193 z_6194 z_6195 z_6196 z_6197 z_6229 z_6230 iM_trouble rM_letters z_6228 iM_hasCourt rM_r rM_fresh rM_told rM_read rM_st rM_undone rM_kept iM_undos iM_images rM_fresher x_6187 iM_scale iM_night rM_heardRow rM_cutRow iM_breaths iM_cutMany iM_allBreaths rM_trial rM_words iM_fewestBreaths iM_orderMany iM_orderSum iM_leastOrder rM_often iM_setMany iM_someOf iM_allOf iM_allWeight iM_enoughWeight iM_worthSum iM_firstRest iM_leastDrawn 5 z_6193 (by first | omega | decide) (by first | omega | decide) (by first | exact b_z_6194 | omega | decide) (by first | exact b_z_6197 | omega | decide) (by first | exact b_z_6228 | omega | decide) (by first | omega | decide) (by first | omega | decide) (by first | omega | decide) (by first | omega | decide) (by first | omega | decide) (by first | omega | decide) (by first | assumption | exact (fun h9 => by have q0 := kc_0; have q1 := kc_1; omega))) (cwV 2 hts (wd_V wd_430 wd_431 wd_432 wd_5 (wd_c wd_433)) rfl rfl rfl (by decide +kernel) ⟨Nat.le_of_ble_eq_true rfl, Nat.le_of_ble_eq_true rfl⟩) ⟨Pw.fb, va_recv hK hP (ci := 7) (q0 := 2) rfl rfl, fun U hU hW => Pw.to (hP.sub [2] rfl) (hD.sub [2] (by decide) rfl) (hK.sub [] rfl) hE hS hFc hU hW⟩ rfl rfl hl.1 rfl (lv_room (Nat.le_of_ble_eq_true rfl)) dX7_innerLine_107 ⟨Nat.le_of_ble_eq_true rfl, Nat.le_of_ble_eq_true rfl⟩) hS (fun q _ h => hFc q h) hFc (fun u t H locs ht hvm hw hB hz1 hk1 hS => ?_)
                      obtain ⟨x_6311, x_6312, x_6313, b_x_6313, e_x_6311_0, e_x_6311_1, hB⟩ := hB
                      obtain ⟨hP, hD, hK⟩ := Bw.go (ws' := [(arI rM_tape kM_tape 900 fM_tape), (arI rM_fresher kM_fresher 8 f_6189), (arI rM_letters kM_letters 8 f_6201), (arI rM_fresh kM_fresh 287 f_6202), (arI rM_read kM_read 90 f_6203), (oc7 oM iM_thrown rM_tape iM_taped iM_size z_6193 z_6194 z_6195 z_6196 z_6197 x_6311 x_6312 iM_trouble rM_letters x_6313 iM_hasCourt rM_r rM_fresh rM_told rM_read rM_st rM_undone rM_kept iM_undos iM_images rM_fresher x_6187 iM_scale iM_night rM_heardRow rM_cutRow iM_breaths iM_cutMany iM_allBreaths rM_trial rM_words iM_fewestBreaths iM_orderMany iM_orderSum iM_leastOrder rM_often iM_setMany iM_someOf iM_allOf iM_allWeight iM_enoughWeight iM_worthSum iM_firstRest iM_leastDrawn)]) (tys' := [(kM_tape, .int), (kM_fresher, .int), (kM_letters, .int), (kM_fresh, .int), (kM_read, .int)]) hB rfl ht hvm hP hD hK [2] [0, 1, 3, 4, 5] rfl (by decide) (by decide) [0, 1, 2, 3, 4] hk1 hFc rfl rfl rfl
                      clear hz1 hk1 hvm ht hB
                      have hG := hG.trans (un3_eq e_x_6311_1)
                      refine lv_aload_n hx hb dX7_innerLine_110 rfl (lv_at hl 5 rfl) ?_
                      have hFc := va_free (wc := [(oc7 oM iM_thrown rM_tape iM_taped iM_size z_6193 z_6194 z_6195 z_6196 z_6197 x_6311 x_6312 iM_trouble rM_letters x_6313 iM_hasCourt rM_r rM_fresh rM_told rM_read rM_st rM_undone rM_kept iM_undos iM_images rM_fresher x_6187 iM_scale iM_night rM_heardRow rM_cutRow iM_breaths iM_cutMany iM_allBreaths rM_trial rM_words iM_fewestBreaths iM_orderMany iM_orderSum iM_leastOrder rM_often iM_setMany iM_someOf iM_allOf iM_allWeight iM_enoughWeight iM_worthSum iM_firstRest iM_leastDrawn), (arI rM_tape kM_tape 900 fM_tape), (arI rM_letters kM_letters 8 f_6201)]) hD hS hA [5, 0, 2] rfl
                      refine va_callv (va_runV (As := []) (rest := []) ⟨hx, hb, hml, hown, hts⟩ (tX7_pass l dC dI _ oM iM_thrown rM_tape fM_tape kM_tape iM_taped iM_size z_6193 z_6194 z_6195 z_6196 z_6197 x_6311 x_6312 iM_trouble rM_letters f_6201 kM_letters x_6313 iM_hasCourt rM_r rM_fresh rM_told rM_read rM_st rM_undone rM_kept iM_undos iM_images rM_fresher x_6187 iM_scale iM_night rM_heardRow rM_cutRow iM_breaths iM_cutMany iM_allBreaths rM_trial rM_words iM_fewestBreaths iM_orderMany iM_orderSum iM_leastOrder rM_often iM_setMany iM_someOf iM_allOf iM_allWeight iM_enoughWeight iM_worthSum iM_firstRest iM_leastDrawn (by first | omega | decide) (by first | omega | decide) (by first | exact b_z_6194 | omega | decide) (by first | exact b_z_6197 | omega | decide) (by first | exact b_x_6313 | omega | decide) (by first | omega | decide) (by first | omega | decide) (by first | omega | decide) (by first | omega | decide) (by first | omega | decide) (by first | omega | decide) (by first | assumption | exact (fun h9 => by have q0 := kc_0; have q1 := kc_1; omega))) (cwV 0 hts (wd_V wd_454 wd_455 wd_456 wd_5 (wd_c wd_457)) rfl rfl rfl (by decide +kernel) ⟨Nat.le_of_ble_eq_true rfl, Nat.le_of_ble_eq_true rfl⟩) ⟨Pw.fb, va_recv hK hP (ci := 7) (q0 := 5) rfl rfl, fun U hU hW => Pw.to (hP.sub [5, 0, 2] rfl) (hD.sub [5, 0, 2] (by decide) rfl) (hK.sub [0, 2] rfl) hE hS hFc hU hW⟩ rfl rfl hl.1 rfl (lv_room (Nat.le_of_ble_eq_true rfl)) dX7_innerLine_111 ⟨Nat.le_of_ble_eq_true rfl, Nat.le_of_ble_eq_true rfl⟩) hS (fun q _ h => hFc q h) hFc (fun u t H locs ht hvm hw hB hz1 hk1 hS => ?_)
                      obtain ⟨x_6314, x_6315, x_6316, x_6317, x_6318, f_6319, b_x_6315, b_x_6318, e_x_6314_0, e_x_6314_1, e_x_6314_2, e_x_6314_3, hB⟩ := hB
                      obtain ⟨hP, hD, hK⟩ := Bw.go (ws' := [(arI rM_fresher kM_fresher 8 f_6189), (arI rM_fresh kM_fresh 287 f_6202), (arI rM_read kM_read 90 f_6203), (oc7 oM iM_thrown rM_tape iM_taped iM_size x_6314 x_6315 x_6316 x_6317 x_6318 x_6311 x_6312 iM_trouble rM_letters x_6313 iM_hasCourt rM_r rM_fresh rM_told rM_read rM_st rM_undone rM_kept iM_undos iM_images rM_fresher x_6187 iM_scale iM_night rM_heardRow rM_cutRow iM_breaths iM_cutMany iM_allBreaths rM_trial rM_words iM_fewestBreaths iM_orderMany iM_orderSum iM_leastOrder rM_often iM_setMany iM_someOf iM_allOf iM_allWeight iM_enoughWeight iM_worthSum iM_firstRest iM_leastDrawn), (arI rM_tape kM_tape 900 fM_tape), (arI rM_letters kM_letters 8 f_6319)]) (tys' := [(kM_fresher, .int), (kM_fresh, .int), (kM_read, .int), (kM_tape, .int), (kM_letters, .int)]) hB rfl ht hvm hP hD hK [5, 0, 2] [1, 3, 4] rfl (by decide) (by decide) [1, 3, 4] hk1 hFc rfl rfl rfl
                      clear hz1 hk1 hvm ht hB
                      have hG := hG.trans (un6_eq e_x_6314_3)
                      clear hi6_n_6204
                      clear hi8_n_6204
                      refine lv_iload_n hx hb dX7_innerLine_114 rfl (lv_at hl 6 rfl) ?_
                      refine lv_iconst (v := 3) hx hb dX7_innerLine_115 (by decide) ?_
                      refine lv_icmp_ne (tgt := 129) hx hb dX7_innerLine_116 (by decide) (fun c_6320 => ?_) (fun c_6320 => ?_)
                      · skip
                        have hG := hG.trans (if_neg c_6320)
                        have gc_6320 := ti_ne c_6320 rfl kc_3
                        replace gc_6320 : p0.toInt + (-2) ≤ 0 := by omega
                        clear hic
                        refine lv_iconst (v := 0) hx hb dX7_innerLine_129 (by decide) ?_
                        refine lv_istore (lv' := [(6, .int 0), (5, .int x_6226), (4, .int z_6192), (3, .int z_6191), (2, .int x_6190), (0, .ref oM), (1, .int p0)]) hx hb dX7_innerLine_130 hl (by decide) rfl (fun ls hl => ?_)
                        refine lv_aload_n hx hb dX7_innerLine_132 rfl (lv_at hl 5 rfl) ?_
                        refine va_get (D := (dC, dI)) (ci := 7) (v := .int x_6313) (C := RX7) (T := TX7) (N := 48) hx hb hts inX7 hown hK hP 3 rfl rfl 13 (by decide) (hts _ wd_380) (fun _ h9 => h9) rfl dX7_innerLine_133 ?_
                        refine lv_if_eq (tgt := 140) hx hb dX7_innerLine_136 (by decide) (fun c_6321 => ?_) (fun c_6321 => ?_)
                        · skip
                          have hG := hG.trans (if_pos c_6321)
                          have gc_6321 := ti_eq c_6321 rfl kc_0
                          exfalso; clear hG; omega
                        · skip
                          have hG := hG.trans (if_neg c_6321)
                          have gc_6321 := ti_ne c_6321 rfl kc_0
                          replace gc_6321 : (-1) * x_6313.toInt + 1 ≤ 0 := by omega
                          exact W.vret hx hb hr (fun t ht hW => ⟨⟨0, rfl, trivial, ⟨x_6314, x_6315, x_6316, x_6317, x_6318, x_6311, x_6312, x_6313, x_6187, f_6319, f_6202, f_6203, f_6189, b_x_6315, b_x_6318, b_x_6313, (by first | assumption | (have q0 := kc_0; have q1 := kc_1; omega)), e_x_6314_1, (by first | assumption | (have q0 := kc_0; have q1 := kc_1; omega)), (fun h9 => by have q0 := kc_0; have q1 := kc_1; omega), (by first | assumption | (have q0 := kc_0; have q1 := kc_1; omega)), hG, Bw.to (hP.sub [3, 4, 5, 1, 2, 0] rfl) (hD.sub [3, 4, 5, 1, 2, 0] (by decide) rfl) (hK.sub [3, 4, 1, 2, 0] rfl) ht hW⟩⟩, hS.F ht⟩) hS.2.2 dX7_innerLine_139
                      · skip
                        have hG := hG.trans (if_pos c_6320)
                        have gc_6320 := ti_eq c_6320 rfl kc_3
                        have h_6322 := hic (by omega)
                        clear hic
                        refine lv_aload_n hx hb dX7_innerLine_119 rfl (lv_at hl 5 rfl) ?_
                        refine lv_iconst (v := 1) hx hb dX7_innerLine_120 (by decide) ?_
                        refine lv_bipush (v := 9) hx hb dX7_innerLine_121 (by decide) ?_
                        have hFc := va_free (wc := [(oc7 oM iM_thrown rM_tape iM_taped iM_size x_6314 x_6315 x_6316 x_6317 x_6318 x_6311 x_6312 iM_trouble rM_letters x_6313 iM_hasCourt rM_r rM_fresh rM_told rM_read rM_st rM_undone rM_kept iM_undos iM_images rM_fresher x_6187 iM_scale iM_night rM_heardRow rM_cutRow iM_breaths iM_cutMany iM_allBreaths rM_trial rM_words iM_fewestBreaths iM_orderMany iM_orderSum iM_leastOrder rM_often iM_setMany iM_someOf iM_allOf iM_allWeight iM_enoughWeight iM_worthSum iM_firstRest iM_leastDrawn), (arI rM_tape kM_tape 900 fM_tape), (arI rM_letters kM_letters 8 f_6319)]) hD hS hA [3, 4, 5] rfl
                        refine va_calli (va_runV (As := [.int 1, .int 9]) (rest := []) ⟨hx, hb, hml, hown, hts⟩ (tX7_number l dC dI _ oM iM_thrown rM_tape fM_tape kM_tape iM_taped iM_size x_6314 x_6315 x_6316 x_6317 x_6318 x_6311 x_6312 iM_trouble rM_letters f_6319 kM_letters x_6313 iM_hasCourt rM_r rM_fresh rM_told rM_read rM_st rM_undone rM_kept iM_undos iM_images rM_fresher x_6187 iM_scale iM_night rM_heardRow rM_cutRow iM_breaths iM_cutMany iM_allBreaths rM_trial rM_words iM_fewestBreaths iM_orderMany iM_orderSum iM_leastOrder rM_often iM_setMany iM_someOf iM_allOf iM_allWeight iM_enoughWeight iM_worthSum iM_firstRest iM_leastDrawn 1 9 (by first | omega | decide) (by first | omega | decide) (by first | exact b_x_6315 | omega | decide) (by first | exact b_x_6318 | omega | decide) (by first | exact b_x_6313 | omega | decide) (by first | omega | decide) (by first | omega | decide) (by first | omega | decide) (by first | omega | decide) (by first | omega | decide) (by first | omega | decide) (by first | assumption | exact (fun h9 => by have q0 := kc_0; have q1 := kc_1; omega)) (by first | omega | decide | assumption | (have q0 := kc_0; have q1 := kc_1; have q2 := kc_9; omega) | (intro h; exact absurd h (by decide)))) (cwV 2 hts (wd_V wd_446 wd_447 wd_448 wd_5 (wd_c wd_449)) rfl rfl rfl (by decide +kernel) ⟨Nat.le_of_ble_eq_true rfl, Nat.le_of_ble_eq_true rfl⟩) ⟨Pw.fb, va_recv hK hP (ci := 7) (q0 := 3) rfl rfl, fun U hU hW => Pw.to (hP.sub [3, 4, 5] rfl) (hD.sub [3, 4, 5] (by decide) rfl) (hK.sub [3, 4] rfl) hE hS hFc hU hW⟩ rfl rfl hl.1 rfl (lv_room (Nat.le_of_ble_eq_true rfl)) dX7_innerLine_123 ⟨Nat.le_of_ble_eq_true rfl, Nat.le_of_ble_eq_true rfl⟩) hS (fun q _ h => hFc q h) hFc (fun r u t H locs ht hvm hw hB hz1 hk1 hS => ?_)
                        have hru9 := hw.2
                        have hw := hw.1
                        obtain ⟨x_6323, x_6324, x_6325, x_6326, x_6327, x_6328, x_6329, x_6330, f_6331, b_x_6324, b_x_6327, b_x_6330, e_x_6323_0, e_x_6323_1, e_x_6323_2, e_x_6323_3, e_x_6323_4, hB⟩ := hB
                        obtain ⟨hP, hD, hK⟩ := Bw.go (ws' := [(arI rM_fresher kM_fresher 8 f_6189), (arI rM_fresh kM_fresh 287 f_6202), (arI rM_read kM_read 90 f_6203), (oc7 oM iM_thrown rM_tape iM_taped iM_size x_6323 x_6324 x_6325 x_6326 x_6327 x_6328 x_6329 iM_trouble rM_letters x_6330 iM_hasCourt rM_r rM_fresh rM_told rM_read rM_st rM_undone rM_kept iM_undos iM_images rM_fresher x_6187 iM_scale iM_night rM_heardRow rM_cutRow iM_breaths iM_cutMany iM_allBreaths rM_trial rM_words iM_fewestBreaths iM_orderMany iM_orderSum iM_leastOrder rM_often iM_setMany iM_someOf iM_allOf iM_allWeight iM_enoughWeight iM_worthSum iM_firstRest iM_leastDrawn), (arI rM_tape kM_tape 900 fM_tape), (arI rM_letters kM_letters 8 f_6331)]) (tys' := [(kM_fresher, .int), (kM_fresh, .int), (kM_read, .int), (kM_tape, .int), (kM_letters, .int)]) hB rfl ht hvm hP hD hK [3, 4, 5] [0, 1, 2] rfl (by decide) (by decide) [0, 1, 2] hk1 hFc rfl rfl rfl
                        clear hz1 hk1 hvm ht hB
                        rw [← hru9] at e_x_6323_4
                        obtain ⟨x_6332, rfl⟩ : ∃ z, z = r := ⟨_, rfl⟩
                        have hG := hG.trans (un10_eq e_x_6323_4)
                        have lx_6332 := hw.2
                        have kl_1 := kc_1
                        have kl_9 := kc_9
                        clear e_x_6314_1
                        clear e_x_6314_2
                        refine lv_goto (tgt := 130) hx hb dX7_innerLine_126 (by decide) ?_
                        refine lv_istore (lv' := [(6, .int x_6332), (5, .int x_6226), (4, .int z_6192), (3, .int z_6191), (2, .int x_6190), (0, .ref oM), (1, .int p0)]) hx hb dX7_innerLine_130 hl (by decide) rfl (fun ls hl => ?_)
                        refine lv_aload_n hx hb dX7_innerLine_132 rfl (lv_at hl 5 rfl) ?_
                        refine va_get (D := (dC, dI)) (ci := 7) (v := .int x_6330) (C := RX7) (T := TX7) (N := 48) hx hb hts inX7 hown hK hP 3 rfl rfl 13 (by decide) (hts _ wd_380) (fun _ h9 => h9) rfl dX7_innerLine_133 ?_
                        refine lv_if_eq (tgt := 140) hx hb dX7_innerLine_136 (by decide) (fun c_6333 => ?_) (fun c_6333 => ?_)
                        · skip
                          have hG := hG.trans (if_pos c_6333)
                          have gc_6333 := ti_eq c_6333 rfl kc_0
                          exfalso; clear hG; omega
                        · skip
                          have hG := hG.trans (if_neg c_6333)
                          have gc_6333 := ti_ne c_6333 rfl kc_0
                          replace gc_6333 : (-1) * x_6330.toInt + 1 ≤ 0 := by omega
                          exact W.vret hx hb hr (fun t ht hW => ⟨⟨0, rfl, trivial, ⟨x_6323, x_6324, x_6325, x_6326, x_6327, x_6328, x_6329, x_6330, x_6187, f_6331, f_6202, f_6203, f_6189, b_x_6324, b_x_6327, b_x_6330, (by first | assumption | (have q0 := kc_0; have q1 := kc_1; omega)), e_x_6323_1, (by first | assumption | (have q0 := kc_0; have q1 := kc_1; omega)), (fun h9 => by have q0 := kc_0; have q1 := kc_1; omega), (by first | assumption | (have q0 := kc_0; have q1 := kc_1; omega)), hG, Bw.to (hP.sub [3, 4, 5, 1, 2, 0] rfl) (hD.sub [3, 4, 5, 1, 2, 0] (by decide) rfl) (hK.sub [3, 4, 1, 2, 0] rfl) ht hW⟩⟩, hS.F ht⟩) hS.2.2 dX7_innerLine_139
                · skip
                  have hG := hG.trans (if_neg c_6232)
                  have gc_6232 := ti_nle c_6232 rfl rfl
                  refine lv_aload_n hx hb dX7_innerLine_51 rfl (lv_at hl 5 rfl) ?_
                  refine va_get (D := (dC, dI)) (ci := 7) (v := .int z_6228) (C := RX7) (T := TX7) (N := 48) hx hb hts inX7 hown hK hP 2 rfl rfl 13 (by decide) (hts _ wd_380) (fun _ h9 => h9) rfl dX7_innerLine_52 ?_
                  refine lv_if_ne (tgt := 83) hx hb dX7_innerLine_55 (by decide) (fun c_6334 => ?_) (fun c_6334 => ?_)
                  · skip
                    have hG := hG.trans (if_neg c_6334)
                    have gc_6334 := ti_ne c_6334 rfl kc_0
                    replace gc_6334 : (-1) * z_6228.toInt + 1 ≤ 0 := by omega
                    obtain ⟨x_6335, ex_6335⟩ : ∃ z : Int32, z = z_6227 + Int32.ofInt 1 := ⟨_, rfl⟩
                    have hG := hG.trans (lt_eq ex_6335)
                    have vx_6335 : x_6335.toInt = z_6227.toInt + 1 := by have q := ti_add (y := 1) ex_6335 rfl kc_1 (by omega) (by omega); omega
                    refine lv_iinc (v := x_6335) (lv' := [(6, .int x_6335), (5, .int x_6226), (4, .int z_6192), (3, .int z_6191), (2, .int x_6190), (0, .ref oM), (1, .int p0)]) hx hb dX7_innerLine_83 hl (k := 0) rfl ex_6335.symm (by decide) rfl (fun ls hl => ?_)
                    refine lv_goto (tgt := 45) hx hb dX7_innerLine_86 (by decide) ?_
                    exact ih_n_6231 x_6335 z_6228 z_6229 z_6230 _ _ _ b_z_6228 (by first | omega | decide | assumption) (by first | omega | decide | assumption) (show NeI _ _ _ _ _ from fun h9 i9 hi9 => by by_cases e9 : i9 = z_6227.toNatClampNeg; (rw [e9]; omega); exact hi2_n_6231 (by omega) i9 (by have q1 := ti_cl (x := x_6335) vx_6335 (by omega); have q2 := ti_cl (x := z_6227) rfl (by omega); omega)) (by omega) hG (hP.sub [0, 1, 2, 3, 4, 5] rfl) (hD.sub [0, 1, 2, 3, 4, 5] (by decide) rfl) hS (lv_sub hl [0, 1, 2, 3, 4, 5, 6] rfl)
                  · skip
                    have hG := hG.trans (if_pos c_6334)
                    have gc_6334 := ti_eq c_6334 rfl kc_0
                    have h_6336 := e_x_6223_1 (by omega)
                    clear e_x_6223_1
                    have h_6337 := lx_6226.2.1 (by omega)
                    refine lv_aload_n hx hb dX7_innerLine_58 rfl (lv_at hl 5 rfl) ?_
                    refine va_get (D := (dC, dI)) (ci := 7) (v := .ref rM_read) (C := RX7) (T := TX7) (N := 48) hx hb hts inX7 hown hK hP 2 rfl rfl 18 (by decide) (hts _ wd_158) (fun _ h9 => h9) rfl dX7_innerLine_59 ?_
                    refine lv_iconst (v := 4) hx hb dX7_innerLine_62 (by decide) ?_
                    refine lv_iload_n hx hb dX7_innerLine_63 rfl (lv_at hl 4 rfl) ?_
                    refine lv_imul hx hb dX7_innerLine_64 ?_
                    refine lv_topi (fun x_6338 ex_6338 => ?_)
                    have hG := hG.trans (lt_eq ex_6338)
                    have vx_6338 : x_6338.toInt = 4 * x_6190.toInt := by have q := ti_mul ex_6338 kc_4 rfl (by omega) (by omega); omega
                    refine lv_iload hx hb dX7_innerLine_65 (lv_at hl 0 rfl) ?_
                    refine lv_iadd hx hb dX7_innerLine_67 ?_
                    refine lv_topi (fun x_6339 ex_6339 => ?_)
                    have hG := hG.trans (lt_eq ex_6339)
                    have vx_6339 : x_6339.toInt = 4 * x_6190.toInt + z_6227.toInt := by have q := ti_add ex_6339 vx_6338 rfl (by omega) (by omega); omega
                    refine va_iald hx hb hK hP 5 4 rfl rfl (ti_in vx_6339 (by omega) (by omega)) dX7_innerLine_68 ?_
                    refine lv_topi (fun x_6340 ex_6340 => ?_)
                    have hG := hG.trans (lt_eq ex_6340)
                    have kx_6340 : (f_6203 x_6339.toNatClampNeg).toInt = x_6340.toInt := by rw [ex_6340]
                    have cx_6340 : (f_6203 (4 * x_6190.toNatClampNeg + z_6227.toNatClampNeg)).toInt = x_6340.toInt := by rw [show 4 * x_6190.toNatClampNeg + z_6227.toNatClampNeg = x_6339.toNatClampNeg from by have q9 := ti_cl (x := x_6339) vx_6339 (by omega); have q_x_6190 := ti_cl (x := x_6190) rfl (by omega); have q_z_6227 := ti_cl (x := z_6227) rfl (by omega); omega]; exact kx_6340
                    refine lv_iload hx hb dX7_innerLine_69 (lv_at hl 1 rfl) ?_
                    refine lv_icmp_ne (tgt := 83) hx hb dX7_innerLine_71 (by decide) (fun c_6341 => ?_) (fun c_6341 => ?_)
                    · skip
                      have hG := hG.trans (if_neg c_6341)
                      have gc_6341 := ti_ne c_6341 rfl rfl
                      obtain ⟨x_6342, ex_6342⟩ : ∃ z : Int32, z = z_6227 + Int32.ofInt 1 := ⟨_, rfl⟩
                      have hG := hG.trans (lt_eq ex_6342)
                      have vx_6342 : x_6342.toInt = z_6227.toInt + 1 := by have q := ti_add (y := 1) ex_6342 rfl kc_1 (by omega) (by omega); omega
                      refine lv_iinc (v := x_6342) (lv' := [(6, .int x_6342), (5, .int x_6226), (4, .int z_6192), (3, .int z_6191), (2, .int x_6190), (0, .ref oM), (1, .int p0)]) hx hb dX7_innerLine_83 hl (k := 0) rfl ex_6342.symm (by decide) rfl (fun ls hl => ?_)
                      refine lv_goto (tgt := 45) hx hb dX7_innerLine_86 (by decide) ?_
                      exact ih_n_6231 x_6342 z_6228 z_6229 z_6230 _ _ _ b_z_6228 (by first | omega | decide | assumption) (by first | omega | decide | assumption) (show NeI _ _ _ _ _ from fun h9 i9 hi9 => by by_cases e9 : i9 = z_6227.toNatClampNeg; (rw [e9]; omega); exact hi2_n_6231 (by omega) i9 (by have q1 := ti_cl (x := x_6342) vx_6342 (by omega); have q2 := ti_cl (x := z_6227) rfl (by omega); omega)) (by omega) hG (hP.sub [0, 1, 2, 3, 4, 5] rfl) (hD.sub [0, 1, 2, 3, 4, 5] (by decide) rfl) hS (lv_sub hl [0, 1, 2, 3, 4, 5, 6] rfl)
                    · skip
                      have hG := hG.trans (if_pos c_6341)
                      have gc_6341 := ti_eq c_6341 rfl rfl
                      refine lv_aload_n hx hb dX7_innerLine_74 rfl (lv_at hl 5 rfl) ?_
                      refine lv_iconst (v := 3) hx hb dX7_innerLine_75 (by decide) ?_
                      refine lv_aload_n hx hb dX7_innerLine_76 rfl (lv_at hl 5 rfl) ?_
                      refine va_get (D := (dC, dI)) (ci := 7) (v := .int z_6193) (C := RX7) (T := TX7) (N := 48) hx hb hts inX7 hown hK hP 2 rfl rfl 4 (by decide) (hts _ wd_384) (fun _ h9 => h9) rfl dX7_innerLine_77 ?_
                      have hFc := va_free (wc := [(oc7 oM iM_thrown rM_tape iM_taped iM_size z_6193 z_6194 z_6195 z_6196 z_6197 z_6229 z_6230 iM_trouble rM_letters z_6228 iM_hasCourt rM_r rM_fresh rM_told rM_read rM_st rM_undone rM_kept iM_undos iM_images rM_fresher x_6187 iM_scale iM_night rM_heardRow rM_cutRow iM_breaths iM_cutMany iM_allBreaths rM_trial rM_words iM_fewestBreaths iM_orderMany iM_orderSum iM_leastOrder rM_often iM_setMany iM_someOf iM_allOf iM_allWeight iM_enoughWeight iM_worthSum iM_firstRest iM_leastDrawn)]) hD hS hA [2] rfl
                      refine va_callv (va_runV (As := [.int 3, .int z_6193]) (rest := []) ⟨hx, hb, hml, hown, hts⟩ (tX7_wrong l dC dI _ oM iM_thrown rM_tape iM_taped iM_size z_6193 z_6194 z_6195 z_6196 z_6197 z_6229 z_6230 iM_trouble rM_letters z_6228 iM_hasCourt rM_r rM_fresh rM_told rM_read rM_st rM_undone rM_kept iM_undos iM_images rM_fresher x_6187 iM_scale iM_night rM_heardRow rM_cutRow iM_breaths iM_cutMany iM_allBreaths rM_trial rM_words iM_fewestBreaths iM_orderMany iM_orderSum iM_leastOrder rM_often iM_setMany iM_someOf iM_allOf iM_allWeight iM_enoughWeight iM_worthSum iM_firstRest iM_leastDrawn 3 z_6193 (by first | omega | decide) (by first | omega | decide) (by first | exact b_z_6194 | omega | decide) (by first | exact b_z_6197 | omega | decide) (by first | exact b_z_6228 | omega | decide) (by first | omega | decide) (by first | omega | decide) (by first | omega | decide) (by first | omega | decide) (by first | omega | decide) (by first | omega | decide) (by first | assumption | exact (fun h9 => by have q0 := kc_0; have q1 := kc_1; omega))) (cwV 2 hts (wd_V wd_430 wd_431 wd_432 wd_5 (wd_c wd_433)) rfl rfl rfl (by decide +kernel) ⟨Nat.le_of_ble_eq_true rfl, Nat.le_of_ble_eq_true rfl⟩) ⟨Pw.fb, va_recv hK hP (ci := 7) (q0 := 2) rfl rfl, fun U hU hW => Pw.to (hP.sub [2] rfl) (hD.sub [2] (by decide) rfl) (hK.sub [] rfl) hE hS hFc hU hW⟩ rfl rfl hl.1 rfl (lv_room (Nat.le_of_ble_eq_true rfl)) dX7_innerLine_80 ⟨Nat.le_of_ble_eq_true rfl, Nat.le_of_ble_eq_true rfl⟩) hS (fun q _ h => hFc q h) hFc (fun u t H locs ht hvm hw hB hz1 hk1 hS => ?_)
                      obtain ⟨x_6343, x_6344, x_6345, b_x_6345, e_x_6343_0, e_x_6343_1, hB⟩ := hB
                      obtain ⟨hP, hD, hK⟩ := Bw.go (ws' := [(arI rM_tape kM_tape 900 fM_tape), (arI rM_fresher kM_fresher 8 f_6189), (arI rM_letters kM_letters 8 f_6201), (arI rM_fresh kM_fresh 287 f_6202), (arI rM_read kM_read 90 f_6203), (oc7 oM iM_thrown rM_tape iM_taped iM_size z_6193 z_6194 z_6195 z_6196 z_6197 x_6343 x_6344 iM_trouble rM_letters x_6345 iM_hasCourt rM_r rM_fresh rM_told rM_read rM_st rM_undone rM_kept iM_undos iM_images rM_fresher x_6187 iM_scale iM_night rM_heardRow rM_cutRow iM_breaths iM_cutMany iM_allBreaths rM_trial rM_words iM_fewestBreaths iM_orderMany iM_orderSum iM_leastOrder rM_often iM_setMany iM_someOf iM_allOf iM_allWeight iM_enoughWeight iM_worthSum iM_firstRest iM_leastDrawn)]) (tys' := [(kM_tape, .int), (kM_fresher, .int), (kM_letters, .int), (kM_fresh, .int), (kM_read, .int)]) hB rfl ht hvm hP hD hK [2] [0, 1, 3, 4, 5] rfl (by decide) (by decide) [0, 1, 2, 3, 4] hk1 hFc rfl rfl rfl
                      clear hz1 hk1 hvm ht hB
                      have hG := hG.trans (un3_eq e_x_6343_1)
                      obtain ⟨x_6346, ex_6346⟩ : ∃ z : Int32, z = z_6227 + Int32.ofInt 1 := ⟨_, rfl⟩
                      have hG := hG.trans (lt_eq ex_6346)
                      have vx_6346 : x_6346.toInt = z_6227.toInt + 1 := by have q := ti_add (y := 1) ex_6346 rfl kc_1 (by omega) (by omega); omega
                      refine lv_iinc (v := x_6346) (lv' := [(6, .int x_6346), (5, .int x_6226), (4, .int z_6192), (3, .int z_6191), (2, .int x_6190), (0, .ref oM), (1, .int p0)]) hx hb dX7_innerLine_83 hl (k := 0) rfl ex_6346.symm (by decide) rfl (fun ls hl => ?_)
                      refine lv_goto (tgt := 45) hx hb dX7_innerLine_86 (by decide) ?_
                      exact ih_n_6231 x_6346 x_6345 x_6343 x_6344 _ _ _ b_x_6345 (by first | omega | decide | assumption) (by first | omega | decide | assumption) (show NeI _ _ _ _ _ from fun h9 i9 hi9 => by by_cases e9 : i9 = z_6227.toNatClampNeg; (rw [e9]; omega); exact hi2_n_6231 (by omega) i9 (by have q1 := ti_cl (x := x_6346) vx_6346 (by omega); have q2 := ti_cl (x := z_6227) rfl (by omega); omega)) (by omega) hG (hP.sub [0, 1, 5, 2, 3, 4] rfl) (hD.sub [0, 1, 5, 2, 3, 4] (by decide) rfl) hS (lv_sub hl [0, 1, 2, 3, 4, 5, 6] rfl)
            exact key_n_6231 (((z_6191.toInt - (0 : Int32).toInt).toNat) + 1) 0 x_6225 x_6223 x_6224 _ _ _ b_x_6225 (by first | omega | decide | assumption | (have q0 := kc_0; have q1 := kc_1; omega)) (by first | omega | decide | assumption | (have q0 := kc_0; have q1 := kc_1; omega)) (show NeI _ _ _ _ _ from fun _ i9 hi9 => absurd hi9 (Nat.not_lt_zero i9)) (by omega) hG hP hD hS hl
    exact key_n_6204 (((4 - (0 : Int32).toInt).toNat) + 1) 0 1 x_6179 x_6180 x_6181 x_6182 x_6183 x_6184 x_6185 x_6186 f_6188 fM_fresh fM_read _ _ _ b_x_6180 b_x_6183 b_x_6186 (by first | omega | decide | assumption | (have q0 := kc_0; have q1 := kc_1; omega)) (by first | omega | decide | assumption | (have q0 := kc_0; have q1 := kc_1; omega)) (by assumption) in_zero ⟨rfl, rfl, rfl⟩ (fun h9 => by have q0 := kc_0; have q1 := kc_1; omega) e_x_6179_1 (by first | omega | decide | assumption | (have q0 := kc_0; have q1 := kc_1; omega)) (fun h9 => by have q0 := kc_0; have q1 := kc_1; have q9 := e_x_6179_3 (by omega); omega) (by omega) hG hP hD hS hl
  · skip
    have hG := hG.trans (if_neg c_6177)
    have gc_6177 := ti_ne c_6177 rfl kc_0
    replace gc_6177 : (-1) * iM_failed.toInt + 1 ≤ 0 := by omega
    clear hil
    clear hic
    exact W.vret hx hb hr (fun t ht hW => ⟨⟨0, rfl, trivial, ⟨iM_at, iM_end, iM_token, iM_whole, iM_nameSize, iM_fault, iM_place, iM_failed, iM_fresherSize, fM_letters, fM_fresh, fM_read, fM_fresher, (by omega), (by omega), (by omega), (by first | assumption | (have q0 := kc_0; have q1 := kc_1; omega)), r_T, (by first | assumption | (have q0 := kc_0; have q1 := kc_1; omega)), (fun h9 => by have q0 := kc_0; have q1 := kc_1; omega), (by first | assumption | (have q0 := kc_0; have q1 := kc_1; omega)), hG, Bw.to (hP.sub [0, 1, 2, 3, 4, 5] rfl) (hD.sub [0, 1, 2, 3, 4, 5] (by decide) rfl) (hK.sub [0, 1, 2, 3, 4] rfl) ht hW⟩⟩, hS.F ht⟩) hS.2.2 dX7_innerLine_7
