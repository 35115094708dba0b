set_option maxHeartbeats 4000000 in
set_option maxRecDepth 100000 in
theorem tX7_innerLine (l : Launch) (dC : Nat → ClassId) (dI : Nat → Nat → Nat) (sz : Nat) (oM : Nat) (iM_thrown : Int32) (rM_tape : Nat) (fM_tape : Nat → Int32) (kM_tape : ClassId) (iM_taped : Int32) (iM_size : Int32) (iM_at : Int32) (iM_end : Int32) (iM_token : Int32) (iM_whole : Int32) (iM_nameSize : Int32) (iM_fault : Int32) (iM_place : Int32) (iM_trouble : Int32) (rM_letters : Nat) (fM_letters : Nat → Int32) (kM_letters : ClassId) (iM_failed : Int32) (iM_hasCourt : Int32) (rM_r : Nat) (rM_fresh : Nat) (fM_fresh : Nat → Int32) (kM_fresh : ClassId) (rM_told : Nat) (rM_read : Nat) (fM_read : Nat → Int32) (kM_read : ClassId) (rM_st : Nat) (rM_undone : Nat) (rM_kept : Nat) (iM_undos : Int32) (iM_images : Int32) (rM_fresher : Nat) (fM_fresher : Nat → Int32) (kM_fresher : ClassId) (iM_fresherSize : Int32) (iM_scale : Int32) (iM_night : Int32) (rM_heardRow : Nat) (rM_cutRow : Nat) (iM_breaths : Int32) (iM_cutMany : Int32) (iM_allBreaths : Int32) (rM_trial : Nat) (rM_words : Nat) (iM_fewestBreaths : Int32) (iM_orderMany : Int32) (iM_orderSum : Int32) (iM_leastOrder : Int32) (rM_often : Nat) (iM_setMany : Int32) (iM_someOf : Int32) (iM_allOf : Int32) (iM_allWeight : Int64) (iM_enoughWeight : Int64) (iM_worthSum : Int64) (iM_firstRest : Int32) (iM_leastDrawn : Int32) (p0 : Int32) (b_iM_taped : 0 ≤ iM_taped.toInt ∧ iM_taped.toInt ≤ 900) (b_iM_size : 0 ≤ iM_size.toInt ∧ iM_size.toInt ≤ 900) (b_iM_end : 0 ≤ iM_end.toInt ∧ iM_end.toInt ≤ 900) (b_iM_nameSize : 0 ≤ iM_nameSize.toInt ∧ iM_nameSize.toInt ≤ 900) (b_iM_failed : 0 ≤ iM_failed.toInt ∧ iM_failed.toInt ≤ 1) (b_iM_hasCourt : 0 ≤ iM_hasCourt.toInt ∧ iM_hasCourt.toInt ≤ 1) (b_iM_undos : 0 ≤ iM_undos.toInt ∧ iM_undos.toInt ≤ 16) (b_iM_images : 0 ≤ iM_images.toInt ∧ iM_images.toInt ≤ 3) (b_iM_scale : 1 ≤ iM_scale.toInt ∧ iM_scale.toInt ≤ 1296) (b_iM_breaths : 0 ≤ iM_breaths.toInt ∧ iM_breaths.toInt ≤ 399) (b_iM_cutMany : 0 ≤ iM_cutMany.toInt ∧ iM_cutMany.toInt ≤ 399) (r_T : ImpP (iM_token.toInt = 2) (iM_nameSize.toInt ≤ 8)) (r_P : POk fM_fresh fM_read) (hp0 : 1 ≤ p0.toInt ∧ p0.toInt ≤ 3) (hil : ImpP (iM_failed.toInt ≤ 0) ((fM_fresh 7).toInt ≤ 7)) (hic : ImpP (iM_failed.toInt ≤ 0 ∧ p0.toInt = 3) ((fM_fresh 8).toInt ≤ 1)) : Met l yX7_innerLine (Cond.code yX7_innerLine cX7_innerLine 7 none :: wG) ({ frames := 7, cells := 0, slots := 0, locals := 175 }) (va_Pc [.ref oM, .int p0] (Pw dC dI sz [(oc7 oM iM_thrown rM_tape iM_taped iM_size iM_at iM_end iM_token iM_whole iM_nameSize iM_fault iM_place iM_trouble rM_letters iM_failed iM_hasCourt rM_r rM_fresh rM_told rM_read rM_st rM_undone rM_kept iM_undos iM_images rM_fresher iM_fresherSize iM_scale iM_night rM_heardRow rM_cutRow iM_breaths iM_cutMany iM_allBreaths rM_trial rM_words iM_fewestBreaths iM_orderMany iM_orderSum iM_leastOrder rM_often iM_setMany iM_someOf iM_allOf iM_allWeight iM_enoughWeight iM_worthSum iM_firstRest iM_leastDrawn), (arI rM_tape kM_tape 900 fM_tape), (arI rM_letters kM_letters 8 fM_letters), (arI rM_fresh kM_fresh 287 fM_fresh), (arI rM_read kM_read 90 fM_read), (arI rM_fresher kM_fresher 8 fM_fresher)] [(kM_tape, .int), (kM_letters, .int), (kM_fresh, .int), (kM_read, .int), (kM_fresher, .int)])) (va_Qv (fun (_ : Nat) => True) (fun (_ : Nat) (t : State) => ∃ (niM_at : Int32) (niM_end : Int32) (niM_token : Int32) (niM_whole : Int32) (niM_nameSize : Int32) (niM_fault : Int32) (niM_place : Int32) (niM_failed : Int32) (niM_fresherSize : Int32) (nfM_letters : Nat → Int32) (nfM_fresh : Nat → Int32) (nfM_read : Nat → Int32) (nfM_fresher : Nat → Int32), (0 ≤ niM_end.toInt ∧ niM_end.toInt ≤ 900) ∧ (0 ≤ niM_nameSize.toInt ∧ niM_nameSize.toInt ≤ 900) ∧ (0 ≤ niM_failed.toInt ∧ niM_failed.toInt ≤ 1) ∧ (iM_end.toInt ≤ niM_end.toInt) ∧ (ImpP (niM_token.toInt = 2) (niM_nameSize.toInt ≤ 8)) ∧ (iM_failed.toInt ≤ niM_failed.toInt) ∧ (ImpP (niM_failed.toInt ≤ 0 ∧ niM_token.toInt = 59 ) (iM_end.toInt + 1 ≤ niM_end.toInt)) ∧ (POk nfM_fresh nfM_read) ∧ (PX7_innerLine fM_tape iM_size iM_at iM_end iM_token iM_whole iM_nameSize iM_fault iM_place fM_letters iM_failed fM_fresh fM_read fM_fresher iM_fresherSize p0 = (niM_at, niM_end, niM_token, niM_whole, niM_nameSize, niM_fault, niM_place, niM_failed, niM_fresherSize, nfM_letters, nfM_fresh, nfM_read, nfM_fresher)) ∧ Bw dC dI (va_A [(oc7 oM iM_thrown rM_tape iM_taped iM_size iM_at iM_end iM_token iM_whole iM_nameSize iM_fault iM_place iM_trouble rM_letters iM_failed iM_hasCourt rM_r rM_fresh rM_told rM_read rM_st rM_undone rM_kept iM_undos iM_images rM_fresher iM_fresherSize iM_scale iM_night rM_heardRow rM_cutRow iM_breaths iM_cutMany iM_allBreaths rM_trial rM_words iM_fewestBreaths iM_orderMany iM_orderSum iM_leastOrder rM_often iM_setMany iM_someOf iM_allOf iM_allWeight iM_enoughWeight iM_worthSum iM_firstRest iM_leastDrawn), (arI rM_tape kM_tape 900 fM_tape), (arI rM_letters kM_letters 8 fM_letters), (arI rM_fresh kM_fresh 287 fM_fresh), (arI rM_read kM_read 90 fM_read), (arI rM_fresher kM_fresher 8 fM_fresher)] sz) [(oc7 oM iM_thrown rM_tape iM_taped iM_size niM_at niM_end niM_token niM_whole niM_nameSize niM_fault niM_place iM_trouble rM_letters niM_failed iM_hasCourt rM_r rM_fresh rM_told rM_read rM_st rM_undone rM_kept iM_undos iM_images rM_fresher niM_fresherSize iM_scale iM_night rM_heardRow rM_cutRow iM_breaths iM_cutMany iM_allBreaths rM_trial rM_words iM_fewestBreaths iM_orderMany iM_orderSum iM_leastOrder rM_often iM_setMany iM_someOf iM_allOf iM_allWeight iM_enoughWeight iM_worthSum iM_firstRest iM_leastDrawn), (arI rM_tape kM_tape 900 fM_tape), (arI rM_letters kM_letters 8 nfM_letters), (arI rM_fresh kM_fresh 287 nfM_fresh), (arI rM_read kM_read 90 nfM_read), (arI rM_fresher kM_fresher 8 nfM_fresher)] [(kM_tape, .int), (kM_letters, .int), (kM_fresh, .int), (kM_read, .int), (kM_fresher, .int)] t) (va_A [(oc7 oM iM_thrown rM_tape iM_taped iM_size iM_at iM_end iM_token iM_whole iM_nameSize iM_fault iM_place iM_trouble rM_letters iM_failed iM_hasCourt rM_r rM_fresh rM_told rM_read rM_st rM_undone rM_kept iM_undos iM_images rM_fresher iM_fresherSize iM_scale iM_night rM_heardRow rM_cutRow iM_breaths iM_cutMany iM_allBreaths rM_trial rM_words iM_fewestBreaths iM_orderMany iM_orderSum iM_leastOrder rM_often iM_setMany iM_someOf iM_allOf iM_allWeight iM_enoughWeight iM_worthSum iM_firstRest iM_leastDrawn), (arI rM_tape kM_tape 900 fM_tape), (arI rM_letters kM_letters 8 fM_letters), (arI rM_fresh kM_fresh 287 fM_fresh), (arI rM_read kM_read 90 fM_read), (arI rM_fresher kM_fresher 8 fM_fresher)] sz)) 0 0 (va_A [(oc7 oM iM_thrown rM_tape iM_taped iM_size iM_at iM_end iM_token iM_whole iM_nameSize iM_fault iM_place iM_trouble rM_letters iM_failed iM_hasCourt rM_r rM_fresh rM_told rM_read rM_st rM_undone rM_kept iM_undos iM_images rM_fresher iM_fresherSize iM_scale iM_night rM_heardRow rM_cutRow iM_breaths iM_cutMany iM_allBreaths rM_trial rM_words iM_fewestBreaths iM_orderMany iM_orderSum iM_leastOrder rM_often iM_setMany iM_someOf iM_allOf iM_allWeight iM_enoughWeight iM_worthSum iM_firstRest iM_leastDrawn), (arI rM_tape kM_tape 900 fM_tape), (arI rM_letters kM_letters 8 fM_letters), (arI rM_fresh kM_fresh 287 fM_fresh), (arI rM_read kM_read 90 fM_read), (arI rM_fresher kM_fresher 8 fM_fresher)] sz) := by
  refine Met.ofW (cc := cX7_innerLine) (maxL := 7) (ret := none) (by decide) rfl ?_
  intro p e s m args below meth c s₁ B hml hv
  obtain ⟨rfl, hsz, hP, hK, hD0, hE⟩ := hv
  have hx := B.exec
  have hb := B.bytes
  have hr := B.returns
  have hts : ∀ w ∈ wG, w.before ([.ref oM, .int p0] : List Value).toArray s = true := fun w h => atoms_spec (ws := Cond.code yX7_innerLine cX7_innerLine 7 none :: wG) B.pre w (List.mem_cons_of_mem _ h)
  have hown : s.vm.findClass RX7 = some m.cls := findClass_of_methodNamed B.named
  have hlocks := B.notSynchronized
  subst hsz
  have hD := hD0.self (sz := s.heap.size)
  generalize hAe : va_A [(oc7 oM iM_thrown rM_tape iM_taped iM_size iM_at iM_end iM_token iM_whole iM_nameSize iM_fault iM_place iM_trouble rM_letters iM_failed iM_hasCourt rM_r rM_fresh rM_told rM_read rM_st rM_undone rM_kept iM_undos iM_images rM_fresher iM_fresherSize iM_scale iM_night rM_heardRow rM_cutRow iM_breaths iM_cutMany iM_allBreaths rM_trial rM_words iM_fewestBreaths iM_orderMany iM_orderSum iM_leastOrder rM_often iM_setMany iM_someOf iM_allOf iM_allWeight iM_enoughWeight iM_worthSum iM_firstRest iM_leastDrawn), (arI rM_tape kM_tape 900 fM_tape), (arI rM_letters kM_letters 8 fM_letters), (arI rM_fresh kM_fresh 287 fM_fresh), (arI rM_read kM_read 90 fM_read), (arI rM_fresher kM_fresher 8 fM_fresher)] s.heap.size = A at hD hE ⊢
  have hA : ∀ q : Nat, s.heap.size ≤ q → A q := fun q h => by rw [← hAe]; exact Or.inr h
  have hS : va_S A s.heap s.heap [] := va_S.rf
  have hl := lv_entry ([.ref oM, .int p0]) (n := 7) (Nat.le_of_ble_eq_true rfl)
  rw [lg_entry_eq]
  generalize (lg_sl ([.ref oM, .int p0]) ++ List.replicate (7 - (lg_sl ([.ref oM, .int p0])).length) Slot.unset).toArray = ls at hl ⊢
  have hl : lv_has ls 7 [(0, .ref oM), (1, .int p0)] := hl
  have hG := PX7_innerLine_eq fM_tape iM_size iM_at iM_end iM_token iM_whole iM_nameSize iM_fault iM_place fM_letters iM_failed fM_fresh fM_read fM_fresher iM_fresherSize p0
  have pl_fM_fresh := r_P.lins
  refine lv_aload_n hx hb dX7_innerLine_0 rfl (lv_at hl 0 rfl) ?_
  refine va_get (D := (dC, dI)) (ci := 7) (v := .int iM_failed) (C := RX7) (T := TX7) (N := 48) hx hb hts inX7 hown hK hP 0 rfl rfl 13 (by decide) (hts _ wd_380) (fun _ h9 => h9) rfl dX7_innerLine_1 ?_
  refine lv_if_eq (tgt := 8) hx hb dX7_innerLine_4 (by decide) (fun c_6182 => ?_) (fun c_6182 => ?_)
  · skip
    have hG := hG.trans (if_pos c_6182)
    have gc_6182 := ti_eq c_6182 rfl kc_0
    have h_6183 := hil (by omega)
    clear hil
    refine lv_aload_n hx hb dX7_innerLine_8 rfl (lv_at hl 0 rfl) ?_
    have hFc := va_free (wc := [(oc7 oM iM_thrown rM_tape iM_taped iM_size iM_at iM_end iM_token iM_whole iM_nameSize iM_fault iM_place iM_trouble rM_letters iM_failed iM_hasCourt rM_r rM_fresh rM_told rM_read rM_st rM_undone rM_kept iM_undos iM_images rM_fresher iM_fresherSize iM_scale iM_night rM_heardRow rM_cutRow iM_breaths iM_cutMany iM_allBreaths rM_trial rM_words iM_fewestBreaths iM_orderMany iM_orderSum iM_leastOrder rM_often iM_setMany iM_someOf iM_allOf iM_allWeight iM_enoughWeight iM_worthSum iM_firstRest iM_leastDrawn), (arI rM_tape kM_tape 900 fM_tape), (arI rM_letters kM_letters 8 fM_letters), (arI rM_fresh kM_fresh 287 fM_fresh), (arI rM_read kM_read 90 fM_read), (arI rM_fresher kM_fresher 8 fM_fresher)]) hD hS hA [0, 1, 2, 3, 4, 5] rfl
    refine va_callv (va_runV (As := []) (rest := []) ⟨hx, hb, hml, hown, hts⟩ (tX7_newName l dC dI _ oM iM_thrown rM_tape fM_tape kM_tape iM_taped iM_size iM_at iM_end iM_token iM_whole iM_nameSize iM_fault iM_place iM_trouble rM_letters fM_letters kM_letters iM_failed iM_hasCourt rM_r rM_fresh fM_fresh kM_fresh rM_told rM_read fM_read kM_read rM_st rM_undone rM_kept iM_undos iM_images rM_fresher fM_fresher kM_fresher iM_fresherSize iM_scale iM_night rM_heardRow rM_cutRow iM_breaths iM_cutMany iM_allBreaths rM_trial rM_words iM_fewestBreaths iM_orderMany iM_orderSum iM_leastOrder rM_often iM_setMany iM_someOf iM_allOf iM_allWeight iM_enoughWeight iM_worthSum iM_firstRest iM_leastDrawn (by first | omega | decide) (by first | omega | decide) (by first | omega | decide) (by first | omega | decide) (by first | omega | decide) (by first | omega | decide) (by first | omega | decide) (by first | omega | decide) (by first | omega | decide) (by first | omega | decide) (by first | omega | decide) (by first | assumption | exact (fun h9 => by have q0 := kc_0; have q1 := kc_1; omega)) (by assumption)) (cwV 0 hts (wd_V wd_462 wd_463 wd_464 wd_5 (wd_c wd_465)) rfl rfl rfl (by decide +kernel) ⟨Nat.le_of_ble_eq_true rfl, Nat.le_of_ble_eq_true rfl⟩) ⟨Pw.fb, va_recv hK hP (ci := 7) (q0 := 0) rfl rfl, fun U hU hW => Pw.to (hP.sub [0, 1, 2, 3, 4, 5] rfl) (hD.sub [0, 1, 2, 3, 4, 5] (by decide) rfl) (hK.sub [0, 1, 2, 3, 4] rfl) hE hS hFc hU hW⟩ rfl rfl hl.1 rfl (lv_room (Nat.le_of_ble_eq_true rfl)) dX7_innerLine_9 ⟨Nat.le_of_ble_eq_true rfl, Nat.le_of_ble_eq_true rfl⟩) hS (fun q _ h => hFc q h) hFc (fun u t H locs ht hvm hw hB hz1 hk1 hS => ?_)
    obtain ⟨x_6184, x_6185, x_6186, x_6187, x_6188, x_6189, x_6190, x_6191, x_6192, f_6193, f_6194, b_x_6185, b_x_6188, b_x_6191, e_x_6184_0, e_x_6184_1, e_x_6184_2, e_x_6184_3, e_x_6184_4, hB⟩ := hB
    obtain ⟨hP, hD, hK⟩ := Bw.go (ws' := [(oc7 oM iM_thrown rM_tape iM_taped iM_size x_6184 x_6185 x_6186 x_6187 x_6188 x_6189 x_6190 iM_trouble rM_letters x_6191 iM_hasCourt rM_r rM_fresh rM_told rM_read rM_st rM_undone rM_kept iM_undos iM_images rM_fresher x_6192 iM_scale iM_night rM_heardRow rM_cutRow iM_breaths iM_cutMany iM_allBreaths rM_trial rM_words iM_fewestBreaths iM_orderMany iM_orderSum iM_leastOrder rM_often iM_setMany iM_someOf iM_allOf iM_allWeight iM_enoughWeight iM_worthSum iM_firstRest iM_leastDrawn), (arI rM_tape kM_tape 900 fM_tape), (arI rM_letters kM_letters 8 f_6193), (arI rM_fresh kM_fresh 287 fM_fresh), (arI rM_read kM_read 90 fM_read), (arI rM_fresher kM_fresher 8 f_6194)]) (tys' := [(kM_tape, .int), (kM_letters, .int), (kM_fresh, .int), (kM_read, .int), (kM_fresher, .int)]) hB rfl ht hvm hP hD hK [0, 1, 2, 3, 4, 5] [] rfl (by decide) (by decide) [] hk1 hFc rfl rfl rfl
    clear hz1 hk1 hvm ht hB
    have hG := hG.trans (un11_eq e_x_6184_4)
    clear r_T
    refine lv_aload_n hx hb dX7_innerLine_12 rfl (lv_at hl 0 rfl) ?_
    refine va_get (D := (dC, dI)) (ci := 7) (v := .ref rM_fresh) (C := RX7) (T := TX7) (N := 48) hx hb hts inX7 hown hK hP 0 rfl rfl 16 (by decide) (hts _ wd_156) (fun _ h9 => h9) rfl dX7_innerLine_13 ?_
    refine lv_iconst (v := 1) hx hb dX7_innerLine_16 (by decide) ?_
    refine va_iald hx hb hK hP 3 2 rfl rfl (by unfold vp_in; decide) dX7_innerLine_17 ?_
    refine lv_topi (fun x_6195 ex_6195 => ?_)
    have hG := hG.trans (lt_eq ex_6195)
    have cx_6195 : (fM_fresh 1).toInt = x_6195.toInt := congrArg Int32.toInt (show fM_fresh 1 = x_6195 from ex_6195.symm)
    refine lv_istore_n (lv' := [(2, .int x_6195), (0, .ref oM), (1, .int p0)]) hx hb dX7_innerLine_18 rfl hl (by decide) rfl (fun ls hl => ?_)
    refine lv_iconst (v := 0) hx hb dX7_innerLine_19 (by decide) ?_
    refine lv_istore_n (lv' := [(3, .int 0), (2, .int x_6195), (0, .ref oM), (1, .int p0)]) hx hb dX7_innerLine_20 rfl hl (by decide) rfl (fun ls hl => ?_)
    refine lv_iconst (v := 1) hx hb dX7_innerLine_21 (by decide) ?_
    refine lv_istore (lv' := [(4, .int 1), (3, .int 0), (2, .int x_6195), (0, .ref oM), (1, .int p0)]) hx hb dX7_innerLine_22 hl (by decide) rfl (fun ls hl => ?_)
    have hl := lv_sub hl (l' := [(4, .int 1), (3, .int 0), (2, .int x_6195), (0, .ref oM), (1, .int p0)]) [0, 1, 2, 3, 4] rfl
    have key_n_6209 : ∀ (n_6209 : Nat) (z_6196 : Int32) (z_6197 : Int32) (z_6198 : Int32) (z_6199 : Int32) (z_6200 : Int32) (z_6201 : Int32) (z_6202 : Int32) (z_6203 : Int32) (z_6204 : Int32) (z_6205 : Int32) (f_6206 : Nat → Int32) (f_6207 : Nat → Int32) (f_6208 : Nat → Int32) (H : Heap) (locs : List Loc) (ls : Array Slot), (0 ≤ z_6199.toInt ∧ z_6199.toInt ≤ 900) → (0 ≤ z_6202.toInt ∧ z_6202.toInt ≤ 900) → (0 ≤ z_6205.toInt ∧ z_6205.toInt ≤ 1) → (0 ≤ z_6196.toInt ∧ z_6196.toInt ≤ 4) → (0 ≤ z_6197.toInt ∧ z_6197.toInt ≤ 1) → (POk f_6207 f_6208) → (InOk f_6207 f_6208 (f_6207 1).toNatClampNeg z_6196.toNatClampNeg p0.toInt) → ((f_6207 1).toInt = (fM_fresh 1).toInt ∧ (f_6207 7).toInt = (fM_fresh 7).toInt ∧ (f_6207 8).toInt = (fM_fresh 8).toInt) → (ImpP (z_6197.toInt ≤ 0) (1 ≤ z_6196.toInt)) → (ImpP (z_6200.toInt = 2) (z_6202.toInt ≤ 8)) → (iM_end.toInt ≤ z_6199.toInt) → (ImpP (z_6205.toInt ≤ 0 ∧ z_6200.toInt = 59 ) (iM_end.toInt + 1 ≤ z_6199.toInt)) → (4 - z_6196.toInt).toNat < n_6209 → (PX7_innerLine fM_tape iM_size iM_at iM_end iM_token iM_whole iM_nameSize iM_fault iM_place fM_letters iM_failed fM_fresh fM_read fM_fresher iM_fresherSize p0 = HX7_innerLine_0 fM_tape iM_size p0 x_6192 f_6194 x_6195 n_6209 z_6196 z_6197 z_6198 z_6199 z_6200 z_6201 z_6202 z_6203 z_6204 z_6205 f_6206 f_6207 f_6208) → va_P (dC, dI) vwCl [(oc7 oM iM_thrown rM_tape iM_taped iM_size z_6198 z_6199 z_6200 z_6201 z_6202 z_6203 z_6204 iM_trouble rM_letters z_6205 iM_hasCourt rM_r rM_fresh rM_told rM_read rM_st rM_undone rM_kept iM_undos iM_images rM_fresher x_6192 iM_scale iM_night rM_heardRow rM_cutRow iM_breaths iM_cutMany iM_allBreaths rM_trial rM_words iM_fewestBreaths iM_orderMany iM_orderSum iM_leastOrder rM_often iM_setMany iM_someOf iM_allOf iM_allWeight iM_enoughWeight iM_worthSum iM_firstRest iM_leastDrawn), (arI rM_tape kM_tape 900 fM_tape), (arI rM_letters kM_letters 8 f_6206), (arI rM_fresh kM_fresh 287 f_6207), (arI rM_read kM_read 90 f_6208), (arI rM_fresher kM_fresher 8 f_6194)] H → va_D A [(oc7 oM iM_thrown rM_tape iM_taped iM_size z_6198 z_6199 z_6200 z_6201 z_6202 z_6203 z_6204 iM_trouble rM_letters z_6205 iM_hasCourt rM_r rM_fresh rM_told rM_read rM_st rM_undone rM_kept iM_undos iM_images rM_fresher x_6192 iM_scale iM_night rM_heardRow rM_cutRow iM_breaths iM_cutMany iM_allBreaths rM_trial rM_words iM_fewestBreaths iM_orderMany iM_orderSum iM_leastOrder rM_often iM_setMany iM_someOf iM_allOf iM_allWeight iM_enoughWeight iM_worthSum iM_firstRest iM_leastDrawn), (arI rM_tape kM_tape 900 fM_tape), (arI rM_letters kM_letters 8 f_6206), (arI rM_fresh kM_fresh 287 f_6207), (arI rM_read kM_read 90 f_6208), (arI rM_fresher kM_fresher 8 f_6194)] → va_S A s.heap H locs → lv_has ls 7 [(4, .int z_6197), (3, .int z_6196), (2, .int x_6195), (0, .ref oM), (1, .int p0)] → W p l e (headSpec (Cond.code yX7_innerLine cX7_innerLine 7 none :: wG) ({ frames := 7, cells := 0, slots := 0, locals := 175 })).room s m ([.ref oM, .int p0] : List Value).toArray below meth c H locs 0 0 (MQ below (va_Qv (fun (_ : Nat) => True) (fun (_ : Nat) (t : State) => ∃ (niM_at : Int32) (niM_end : Int32) (niM_token : Int32) (niM_whole : Int32) (niM_nameSize : Int32) (niM_fault : Int32) (niM_place : Int32) (niM_failed : Int32) (niM_fresherSize : Int32) (nfM_letters : Nat → Int32) (nfM_fresh : Nat → Int32) (nfM_read : Nat → Int32) (nfM_fresher : Nat → Int32), (0 ≤ niM_end.toInt ∧ niM_end.toInt ≤ 900) ∧ (0 ≤ niM_nameSize.toInt ∧ niM_nameSize.toInt ≤ 900) ∧ (0 ≤ niM_failed.toInt ∧ niM_failed.toInt ≤ 1) ∧ (iM_end.toInt ≤ niM_end.toInt) ∧ (ImpP (niM_token.toInt = 2) (niM_nameSize.toInt ≤ 8)) ∧ (iM_failed.toInt ≤ niM_failed.toInt) ∧ (ImpP (niM_failed.toInt ≤ 0 ∧ niM_token.toInt = 59 ) (iM_end.toInt + 1 ≤ niM_end.toInt)) ∧ (POk nfM_fresh nfM_read) ∧ (PX7_innerLine fM_tape iM_size iM_at iM_end iM_token iM_whole iM_nameSize iM_fault iM_place fM_letters iM_failed fM_fresh fM_read fM_fresher iM_fresherSize p0 = (niM_at, niM_end, niM_token, niM_whole, niM_nameSize, niM_fault, niM_place, niM_failed, niM_fresherSize, nfM_letters, nfM_fresh, nfM_read, nfM_fresher)) ∧ Bw dC dI A [(oc7 oM iM_thrown rM_tape iM_taped iM_size niM_at niM_end niM_token niM_whole niM_nameSize niM_fault niM_place iM_trouble rM_letters niM_failed iM_hasCourt rM_r rM_fresh rM_told rM_read rM_st rM_undone rM_kept iM_undos iM_images rM_fresher niM_fresherSize iM_scale iM_night rM_heardRow rM_cutRow iM_breaths iM_cutMany iM_allBreaths rM_trial rM_words iM_fewestBreaths iM_orderMany iM_orderSum iM_leastOrder rM_often iM_setMany iM_someOf iM_allOf iM_allWeight iM_enoughWeight iM_worthSum iM_firstRest iM_leastDrawn), (arI rM_tape kM_tape 900 fM_tape), (arI rM_letters kM_letters 8 nfM_letters), (arI rM_fresh kM_fresh 287 nfM_fresh), (arI rM_read kM_read 90 nfM_read), (arI rM_fresher kM_fresher 8 nfM_fresher)] [(kM_tape, .int), (kM_letters, .int), (kM_fresh, .int), (kM_read, .int), (kM_fresher, .int)] t) A) ([.ref oM, .int p0] : List Value).toArray s 0 0 A) (F0 m 24 ls []) := by
      intro n_6209
      induction n_6209 with
      | zero => intro z_6196 z_6197 z_6198 z_6199 z_6200 z_6201 z_6202 z_6203 z_6204 z_6205 f_6206 f_6207 f_6208 H locs ls b_z_6199 b_z_6202 b_z_6205 hi0_n_6209 hi1_n_6209 hi2_n_6209 hi3_n_6209 hi4_n_6209 hi5_n_6209 hi6_n_6209 hi7_n_6209 hi8_n_6209 hm; exact absurd hm (by omega)
      | succ n_6209 ih_n_6209 =>
        intro z_6196 z_6197 z_6198 z_6199 z_6200 z_6201 z_6202 z_6203 z_6204 z_6205 f_6206 f_6207 f_6208 H locs ls b_z_6199 b_z_6202 b_z_6205 hi0_n_6209 hi1_n_6209 hi2_n_6209 hi3_n_6209 hi4_n_6209 hi5_n_6209 hi6_n_6209 hi7_n_6209 hi8_n_6209 hm hG hP hD hS hl
        have hG := hG.trans (HX7_innerLine_0_eq _ _ _ _ _ _ _ _ _ _ _ _ _ _ _ _ _ _ _ _)
        have pl_f_6207 := hi2_n_6209.lins
        refine lv_iload hx hb dX7_innerLine_24 (lv_at hl 0 rfl) ?_
        refine lv_if_eq (tgt := 198) hx hb dX7_innerLine_26 (by decide) (fun c_6210 => ?_) (fun c_6210 => ?_)
        · skip
          have hG := hG.trans (if_pos c_6210)
          have gc_6210 := ti_eq c_6210 rfl kc_0
          have h_6211 := hi5_n_6209 (by omega)
          clear hi5_n_6209
          refine lv_aload_n hx hb dX7_innerLine_198 rfl (lv_at hl 3 rfl) ?_
          refine va_get (D := (dC, dI)) (ci := 7) (v := .int z_6205) (C := RX7) (T := TX7) (N := 48) hx hb hts inX7 hown hK hP 0 rfl rfl 13 (by decide) (hts _ wd_380) (fun _ h9 => h9) rfl dX7_innerLine_199 ?_
          refine lv_if_eq (tgt := 206) hx hb dX7_innerLine_202 (by decide) (fun c_6212 => ?_) (fun c_6212 => ?_)
          · skip
            have hG := hG.trans (if_pos c_6212)
            have gc_6212 := ti_eq c_6212 rfl kc_0
            refine lv_aload_n hx hb dX7_innerLine_206 rfl (lv_at hl 3 rfl) ?_
            refine va_get (D := (dC, dI)) (ci := 7) (v := .ref rM_fresh) (C := RX7) (T := TX7) (N := 48) hx hb hts inX7 hown hK hP 0 rfl rfl 16 (by decide) (hts _ wd_156) (fun _ h9 => h9) rfl dX7_innerLine_207 ?_
            refine lv_bipush (v := 27) hx hb dX7_innerLine_210 (by decide) ?_
            refine lv_iload_n hx hb dX7_innerLine_212 rfl (lv_at hl 2 rfl) ?_
            refine lv_iadd hx hb dX7_innerLine_213 ?_
            refine lv_topi (fun x_6213 ex_6213 => ?_)
            have hG := hG.trans (lt_eq ex_6213)
            have vx_6213 : x_6213.toInt = x_6195.toInt + 27 := by have q := ti_add ex_6213 kc_27 rfl (by omega) (by omega); omega
            refine lv_iload_n hx hb dX7_innerLine_214 rfl (lv_at hl 1 rfl) ?_
            refine va_iast hx hb hK hP hD hS 3 2 rfl rfl (ti_in vx_6213 (by omega) (by omega)) dX7_innerLine_215 (fun H locs hP hD hS => ?_)
            obtain ⟨f_6214, ef_6214⟩ : ∃ g : Nat → Int32, g = upd f_6207 x_6213.toNatClampNeg z_6196 := ⟨_, rfl⟩
            rw [← ef_6214] at hP hD
            have hG := hG.trans (lt_eq ef_6214)
            obtain ⟨hP, hD⟩ := wl2 (ws' := [(oc7 oM iM_thrown rM_tape iM_taped iM_size z_6198 z_6199 z_6200 z_6201 z_6202 z_6203 z_6204 iM_trouble rM_letters z_6205 iM_hasCourt rM_r rM_fresh rM_told rM_read rM_st rM_undone rM_kept iM_undos iM_images rM_fresher x_6192 iM_scale iM_night rM_heardRow rM_cutRow iM_breaths iM_cutMany iM_allBreaths rM_trial rM_words iM_fewestBreaths iM_orderMany iM_orderSum iM_leastOrder rM_often iM_setMany iM_someOf iM_allOf iM_allWeight iM_enoughWeight iM_worthSum iM_firstRest iM_leastDrawn), (arI rM_tape kM_tape 900 fM_tape), (arI rM_letters kM_letters 8 f_6206), (arI rM_fresh kM_fresh 287 f_6214), (arI rM_read kM_read 90 f_6208), (arI rM_fresher kM_fresher 8 f_6194)]) hP hD rfl
            have o1_f_6214 : (f_6214 1).toInt = (f_6207 1).toInt := put_at ef_6214 (by have q9 := ti_cl (x := x_6213) vx_6213 (by omega); omega)
            have o7_f_6214 : (f_6214 7).toInt = (f_6207 7).toInt := put_at ef_6214 (by have q9 := ti_cl (x := x_6213) vx_6213 (by omega); omega)
            have o8_f_6214 : (f_6214 8).toInt = (f_6207 8).toInt := put_at ef_6214 (by have q9 := ti_cl (x := x_6213) vx_6213 (by omega); omega)
            refine lv_aload_n hx hb dX7_innerLine_216 rfl (lv_at hl 3 rfl) ?_
            refine lv_iload_n hx hb dX7_innerLine_217 rfl (lv_at hl 4 rfl) ?_
            have hFc := va_free (wc := [(oc7 oM iM_thrown rM_tape iM_taped iM_size z_6198 z_6199 z_6200 z_6201 z_6202 z_6203 z_6204 iM_trouble rM_letters z_6205 iM_hasCourt rM_r rM_fresh rM_told rM_read rM_st rM_undone rM_kept iM_undos iM_images rM_fresher x_6192 iM_scale iM_night rM_heardRow rM_cutRow iM_breaths iM_cutMany iM_allBreaths rM_trial rM_words iM_fewestBreaths iM_orderMany iM_orderSum iM_leastOrder rM_often iM_setMany iM_someOf iM_allOf iM_allWeight iM_enoughWeight iM_worthSum iM_firstRest iM_leastDrawn), (arI rM_fresh kM_fresh 287 f_6214), (arI rM_fresher kM_fresher 8 f_6194)]) hD hS hA [0, 3, 5] rfl
            refine va_callv (va_runV (As := [.int p0]) (rest := []) ⟨hx, hb, hml, hown, hts⟩ (tX7_lay l dC dI _ oM iM_thrown rM_tape iM_taped iM_size z_6198 z_6199 z_6200 z_6201 z_6202 z_6203 z_6204 iM_trouble rM_letters z_6205 iM_hasCourt rM_r rM_fresh f_6214 kM_fresh rM_told rM_read rM_st rM_undone rM_kept iM_undos iM_images rM_fresher f_6194 kM_fresher x_6192 iM_scale iM_night rM_heardRow rM_cutRow iM_breaths iM_cutMany iM_allBreaths rM_trial rM_words iM_fewestBreaths iM_orderMany iM_orderSum iM_leastOrder rM_often iM_setMany iM_someOf iM_allOf iM_allWeight iM_enoughWeight iM_worthSum iM_firstRest iM_leastDrawn p0 (by first | omega | decide) (by first | omega | decide) (by first | exact b_z_6199 | omega | decide) (by first | exact b_z_6202 | omega | decide) (by first | exact b_z_6205 | omega | decide) (by first | omega | decide) (by first | omega | decide) (by first | omega | decide) (by first | omega | decide) (by first | omega | decide) (by first | omega | decide) (by first | assumption | exact (fun h9 => by have q0 := kc_0; have q1 := kc_1; omega)) (by first | omega | decide | assumption | (have q0 := kc_0; have q1 := kc_1; omega) | (intro h; exact absurd h (by decide))) (by first | omega | decide | assumption | (have q0 := kc_0; have q1 := kc_1; omega) | (intro h; exact absurd h (by decide)))) (cwV 1 hts (wd_V wd_478 wd_479 wd_480 wd_5 (wd_c wd_481)) rfl rfl rfl (by decide +kernel) ⟨Nat.le_of_ble_eq_true rfl, Nat.le_of_ble_eq_true rfl⟩) ⟨Pw.fb, va_recv hK hP (ci := 7) (q0 := 0) rfl rfl, fun U hU hW => Pw.to (hP.sub [0, 3, 5] rfl) (hD.sub [0, 3, 5] (by decide) rfl) (hK.sub [2, 4] rfl) hE hS hFc hU hW⟩ rfl rfl hl.1 rfl (lv_room (Nat.le_of_ble_eq_true rfl)) dX7_innerLine_218 ⟨Nat.le_of_ble_eq_true rfl, Nat.le_of_ble_eq_true rfl⟩) hS (fun q _ h => hFc q h) hFc (fun u t H locs ht hvm hw hB hz1 hk1 hS => ?_)
            obtain ⟨f_6215, e_f_6215_0, e_f_6215_1, hB⟩ := hB
            obtain ⟨hP, hD, hK⟩ := Bw.go (ws' := [(arI rM_tape kM_tape 900 fM_tape), (arI rM_letters kM_letters 8 f_6206), (arI rM_read kM_read 90 f_6208), (oc7 oM iM_thrown rM_tape iM_taped iM_size z_6198 z_6199 z_6200 z_6201 z_6202 z_6203 z_6204 iM_trouble rM_letters z_6205 iM_hasCourt rM_r rM_fresh rM_told rM_read rM_st rM_undone rM_kept iM_undos iM_images rM_fresher x_6192 iM_scale iM_night rM_heardRow rM_cutRow iM_breaths iM_cutMany iM_allBreaths rM_trial rM_words iM_fewestBreaths iM_orderMany iM_orderSum iM_leastOrder rM_often iM_setMany iM_someOf iM_allOf iM_allWeight iM_enoughWeight iM_worthSum iM_firstRest iM_leastDrawn), (arI rM_fresh kM_fresh 287 f_6215), (arI rM_fresher kM_fresher 8 f_6194)]) (tys' := [(kM_tape, .int), (kM_letters, .int), (kM_read, .int), (kM_fresh, .int), (kM_fresher, .int)]) hB rfl ht hvm hP hD hK [0, 3, 5] [1, 2, 4] rfl (by decide) (by decide) [0, 1, 3] hk1 hFc rfl rfl rfl
            clear hz1 hk1 hvm ht hB
            have o2_f_6215 : (f_6215 2).toInt = (f_6214 2).toInt := by rw [(e_f_6215_0).2.2.1 2 (by decide) (by decide) (by have q1 := ti_cl (x := f_6214 1) rfl (by omega); omega)]
            have o7_f_6215 : (f_6215 7).toInt = (f_6214 7).toInt := by rw [(e_f_6215_0).2.2.1 7 (by decide) (by decide) (by have q1 := ti_cl (x := f_6214 1) rfl (by omega); omega)]
            have o8_f_6215 : (f_6215 8).toInt = (f_6214 8).toInt := by rw [(e_f_6215_0).2.2.1 8 (by decide) (by decide) (by have q1 := ti_cl (x := f_6214 1) rfl (by omega); omega)]
            have hG := hG.trans (lt_eq e_f_6215_1.symm)
            refine lv_aload_n hx hb dX7_innerLine_221 rfl (lv_at hl 3 rfl) ?_
            refine va_get (D := (dC, dI)) (ci := 7) (v := .ref rM_fresh) (C := RX7) (T := TX7) (N := 48) hx hb hts inX7 hown hK hP 3 rfl rfl 16 (by decide) (hts _ wd_156) (fun _ h9 => h9) rfl dX7_innerLine_222 ?_
            refine lv_bipush (v := 7) hx hb dX7_innerLine_225 (by decide) ?_
            refine lv_dup2_11 hx hb dX7_innerLine_227 rfl rfl ?_
            refine va_iald hx hb hK hP 4 3 rfl rfl (by unfold vp_in; decide) dX7_innerLine_228 ?_
            refine lv_topi (fun x_6216 ex_6216 => ?_)
            have hG := hG.trans (lt_eq ex_6216)
            have cx_6216 : (f_6215 7).toInt = x_6216.toInt := congrArg Int32.toInt (show f_6215 7 = x_6216 from ex_6216.symm)
            refine lv_iconst (v := 1) hx hb dX7_innerLine_229 (by decide) ?_
            refine lv_iadd hx hb dX7_innerLine_230 ?_
            refine lv_topi (fun x_6217 ex_6217 => ?_)
            have hG := hG.trans (lt_eq ex_6217)
            have vx_6217 : x_6217.toInt = x_6216.toInt + 1 := by have q := ti_add ex_6217 rfl kc_1 (by omega) (by omega); omega
            refine va_iast hx hb hK hP hD hS 4 3 rfl rfl (by unfold vp_in; decide) dX7_innerLine_231 (fun H locs hP hD hS => ?_)
            obtain ⟨f_6218, ef_6218⟩ : ∃ g : Nat → Int32, g = upd f_6215 (7 : Int32).toNatClampNeg x_6217 := ⟨_, rfl⟩
            rw [← ef_6218] at hP hD
            have hG := hG.trans (lt_eq ef_6218)
            obtain ⟨hP, hD⟩ := wl2 (ws' := [(arI rM_tape kM_tape 900 fM_tape), (arI rM_letters kM_letters 8 f_6206), (arI rM_read kM_read 90 f_6208), (oc7 oM iM_thrown rM_tape iM_taped iM_size z_6198 z_6199 z_6200 z_6201 z_6202 z_6203 z_6204 iM_trouble rM_letters z_6205 iM_hasCourt rM_r rM_fresh rM_told rM_read rM_st rM_undone rM_kept iM_undos iM_images rM_fresher x_6192 iM_scale iM_night rM_heardRow rM_cutRow iM_breaths iM_cutMany iM_allBreaths rM_trial rM_words iM_fewestBreaths iM_orderMany iM_orderSum iM_leastOrder rM_often iM_setMany iM_someOf iM_allOf iM_allWeight iM_enoughWeight iM_worthSum iM_firstRest iM_leastDrawn), (arI rM_fresh kM_fresh 287 f_6218), (arI rM_fresher kM_fresher 8 f_6194)]) hP hD rfl
            have o8_f_6218 : (f_6218 8).toInt = (f_6215 8).toInt := put_at ef_6218 (by decide)
            refine lv_aload_n hx hb dX7_innerLine_232 rfl (lv_at hl 3 rfl) ?_
            refine va_get (D := (dC, dI)) (ci := 7) (v := .ref rM_fresh) (C := RX7) (T := TX7) (N := 48) hx hb hts inX7 hown hK hP 3 rfl rfl 16 (by decide) (hts _ wd_156) (fun _ h9 => h9) rfl dX7_innerLine_233 ?_
            refine lv_bipush (v := 8) hx hb dX7_innerLine_236 (by decide) ?_
            refine lv_dup2_11 hx hb dX7_innerLine_238 rfl rfl ?_
            refine va_iald hx hb hK hP 4 3 rfl rfl (by unfold vp_in; decide) dX7_innerLine_239 ?_
            refine lv_topi (fun x_6219 ex_6219 => ?_)
            have hG := hG.trans (lt_eq ex_6219)
            have cx_6219 : (f_6218 8).toInt = x_6219.toInt := congrArg Int32.toInt (show f_6218 8 = x_6219 from ex_6219.symm)
            refine lv_iload_n hx hb dX7_innerLine_240 rfl (lv_at hl 4 rfl) ?_
            refine lv_iconst (v := 3) hx hb dX7_innerLine_241 (by decide) ?_
            refine lv_icmp_ne (tgt := 249) hx hb dX7_innerLine_242 (by decide) (fun c_6220 => ?_) (fun c_6220 => ?_)
            · skip
              have hG := hG.trans (if_neg c_6220)
              have gc_6220 := ti_ne c_6220 rfl kc_3
              replace gc_6220 : p0.toInt + (-2) ≤ 0 := by omega
              clear hic
              refine lv_iconst (v := 0) hx hb dX7_innerLine_249 (by decide) ?_
              refine lv_iadd hx hb dX7_innerLine_250 ?_
              refine lv_topi (fun x_6221 ex_6221 => ?_)
              have hG := hG.trans (lt_eq ex_6221)
              have vx_6221 : x_6221.toInt = x_6219.toInt := by have q := ti_add ex_6221 rfl kc_0 (by omega) (by omega); omega
              refine va_iast hx hb hK hP hD hS 4 3 rfl rfl (by unfold vp_in; decide) dX7_innerLine_251 (fun H locs hP hD hS => ?_)
              obtain ⟨f_6222, ef_6222⟩ : ∃ g : Nat → Int32, g = upd f_6218 (8 : Int32).toNatClampNeg x_6221 := ⟨_, rfl⟩
              rw [← ef_6222] at hP hD
              have hG := hG.trans (lt_eq ef_6222)
              obtain ⟨hP, hD⟩ := wl2 (ws' := [(arI rM_tape kM_tape 900 fM_tape), (arI rM_letters kM_letters 8 f_6206), (arI rM_read kM_read 90 f_6208), (oc7 oM iM_thrown rM_tape iM_taped iM_size z_6198 z_6199 z_6200 z_6201 z_6202 z_6203 z_6204 iM_trouble rM_letters z_6205 iM_hasCourt rM_r rM_fresh rM_told rM_read rM_st rM_undone rM_kept iM_undos iM_images rM_fresher x_6192 iM_scale iM_night rM_heardRow rM_cutRow iM_breaths iM_cutMany iM_allBreaths rM_trial rM_words iM_fewestBreaths iM_orderMany iM_orderSum iM_leastOrder rM_often iM_setMany iM_someOf iM_allOf iM_allWeight iM_enoughWeight iM_worthSum iM_firstRest iM_leastDrawn), (arI rM_fresh kM_fresh 287 f_6222), (arI rM_fresher kM_fresher 8 f_6194)]) hP hD rfl
              have pk_f_6222 : POk f_6222 f_6208 := POk.inner (f := f_6207) (m := z_6196.toNatClampNeg) hi2_n_6209 ef_6214 (by have q9 := ti_cl (x := x_6213) vx_6213 (by omega); have q2 := ti_cl (x := f_6207 1) rfl (by omega); omega) (by have q3 := ti_cl (x := z_6196) rfl (by omega); omega) (by have q3 := ti_cl (x := z_6196) rfl (by omega); omega) (by have q3 := ti_cl (x := z_6196) rfl (by omega); omega) e_f_6215_0 (by omega) ef_6218 rfl (by have q := vx_6217; omega) ef_6222 rfl (by have q := vx_6221; have q0 := kc_0; have q1 := kc_1; first | (rw [if_pos (by omega)]; omega) | (rw [if_neg (by omega)]; omega)) (by omega) (fun h9 => by omega) hi3_n_6209
              have pl_f_6222 := pk_f_6222.lins
              exact W.vret hx hb hr (fun t ht hW => ⟨⟨0, rfl, trivial, ⟨z_6198, z_6199, z_6200, z_6201, z_6202, z_6203, z_6204, z_6205, x_6192, f_6206, f_6222, f_6208, f_6194, b_z_6199, b_z_6202, b_z_6205, (by first | assumption | (have q0 := kc_0; have q1 := kc_1; omega)), hi6_n_6209, (by first | assumption | (have q0 := kc_0; have q1 := kc_1; omega)), (fun h9 => by have q0 := kc_0; have q1 := kc_1; have q9 := hi8_n_6209 (by omega); omega), (by first | assumption | (have q0 := kc_0; have q1 := kc_1; omega)), hG, Bw.to (hP.sub [3, 0, 1, 4, 2, 5] rfl) (hD.sub [3, 0, 1, 4, 2, 5] (by decide) rfl) (hK.sub [0, 1, 3, 2, 4] rfl) ht hW⟩⟩, hS.F ht⟩) hS.2.2 dX7_innerLine_252
            · skip
              have hG := hG.trans (if_pos c_6220)
              have gc_6220 := ti_eq c_6220 rfl kc_3
              have h_6223 := hic (by omega)
              clear hic
              refine lv_iconst (v := 1) hx hb dX7_innerLine_245 (by decide) ?_
              refine lv_goto (tgt := 250) hx hb dX7_innerLine_246 (by decide) ?_
              refine lv_iadd hx hb dX7_innerLine_250 ?_
              refine lv_topi (fun x_6224 ex_6224 => ?_)
              have hG := hG.trans (lt_eq ex_6224)
              have vx_6224 : x_6224.toInt = x_6219.toInt + 1 := by have q := ti_add ex_6224 rfl kc_1 (by omega) (by omega); omega
              refine va_iast hx hb hK hP hD hS 4 3 rfl rfl (by unfold vp_in; decide) dX7_innerLine_251 (fun H locs hP hD hS => ?_)
              obtain ⟨f_6225, ef_6225⟩ : ∃ g : Nat → Int32, g = upd f_6218 (8 : Int32).toNatClampNeg x_6224 := ⟨_, rfl⟩
              rw [← ef_6225] at hP hD
              have hG := hG.trans (lt_eq ef_6225)
              obtain ⟨hP, hD⟩ := wl2 (ws' := [(arI rM_tape kM_tape 900 fM_tape), (arI rM_letters kM_letters 8 f_6206), (arI rM_read kM_read 90 f_6208), (oc7 oM iM_thrown rM_tape iM_taped iM_size z_6198 z_6199 z_6200 z_6201 z_6202 z_6203 z_6204 iM_trouble rM_letters z_6205 iM_hasCourt rM_r rM_fresh rM_told rM_read rM_st rM_undone rM_kept iM_undos iM_images rM_fresher x_6192 iM_scale iM_night rM_heardRow rM_cutRow iM_breaths iM_cutMany iM_allBreaths rM_trial rM_words iM_fewestBreaths iM_orderMany iM_orderSum iM_leastOrder rM_often iM_setMany iM_someOf iM_allOf iM_allWeight iM_enoughWeight iM_worthSum iM_firstRest iM_leastDrawn), (arI rM_fresh kM_fresh 287 f_6225), (arI rM_fresher kM_fresher 8 f_6194)]) hP hD rfl
              have pk_f_6225 : POk f_6225 f_6208 := POk.inner (f := f_6207) (m := z_6196.toNatClampNeg) hi2_n_6209 ef_6214 (by have q9 := ti_cl (x := x_6213) vx_6213 (by omega); have q2 := ti_cl (x := f_6207 1) rfl (by omega); omega) (by have q3 := ti_cl (x := z_6196) rfl (by omega); omega) (by have q3 := ti_cl (x := z_6196) rfl (by omega); omega) (by have q3 := ti_cl (x := z_6196) rfl (by omega); omega) e_f_6215_0 (by omega) ef_6218 rfl (by have q := vx_6217; omega) ef_6225 rfl (by have q := vx_6224; have q0 := kc_0; have q1 := kc_1; first | (rw [if_pos (by omega)]; omega) | (rw [if_neg (by omega)]; omega)) (by omega) (fun h9 => by omega) hi3_n_6209
              have pl_f_6225 := pk_f_6225.lins
              exact W.vret hx hb hr (fun t ht hW => ⟨⟨0, rfl, trivial, ⟨z_6198, z_6199, z_6200, z_6201, z_6202, z_6203, z_6204, z_6205, x_6192, f_6206, f_6225, f_6208, f_6194, b_z_6199, b_z_6202, b_z_6205, (by first | assumption | (have q0 := kc_0; have q1 := kc_1; omega)), hi6_n_6209, (by first | assumption | (have q0 := kc_0; have q1 := kc_1; omega)), (fun h9 => by have q0 := kc_0; have q1 := kc_1; have q9 := hi8_n_6209 (by omega); omega), (by first | assumption | (have q0 := kc_0; have q1 := kc_1; omega)), hG, Bw.to (hP.sub [3, 0, 1, 4, 2, 5] rfl) (hD.sub [3, 0, 1, 4, 2, 5] (by decide) rfl) (hK.sub [0, 1, 3, 2, 4] rfl) ht hW⟩⟩, hS.F ht⟩) hS.2.2 dX7_innerLine_252
          · skip
            have hG := hG.trans (if_neg c_6212)
            have gc_6212 := ti_ne c_6212 rfl kc_0
            replace gc_6212 : (-1) * z_6205.toInt + 1 ≤ 0 := by omega
            exact W.vret hx hb hr (fun t ht hW => ⟨⟨0, rfl, trivial, ⟨z_6198, z_6199, z_6200, z_6201, z_6202, z_6203, z_6204, z_6205, x_6192, f_6206, f_6207, f_6208, f_6194, b_z_6199, b_z_6202, b_z_6205, (by first | assumption | (have q0 := kc_0; have q1 := kc_1; omega)), hi6_n_6209, (by first | assumption | (have q0 := kc_0; have q1 := kc_1; omega)), (fun h9 => by have q0 := kc_0; have q1 := kc_1; omega), (by first | assumption | (have q0 := kc_0; have q1 := kc_1; omega)), hG, Bw.to (hP.sub [0, 1, 2, 3, 4, 5] rfl) (hD.sub [0, 1, 2, 3, 4, 5] (by decide) rfl) (hK.sub [0, 1, 2, 3, 4] rfl) ht hW⟩⟩, hS.F ht⟩) hS.2.2 dX7_innerLine_205
        · skip
          have hG := hG.trans (if_neg c_6210)
          have gc_6210 := ti_ne c_6210 rfl kc_0
          replace gc_6210 : (-1) * z_6197.toInt + 1 ≤ 0 := by omega
          clear hi5_n_6209
          refine lv_aload_n hx hb dX7_innerLine_29 rfl (lv_at hl 3 rfl) ?_
          refine va_get (D := (dC, dI)) (ci := 7) (v := .int z_6205) (C := RX7) (T := TX7) (N := 48) hx hb hts inX7 hown hK hP 0 rfl rfl 13 (by decide) (hts _ wd_380) (fun _ h9 => h9) rfl dX7_innerLine_30 ?_
          refine lv_if_ne (tgt := 198) hx hb dX7_innerLine_33 (by decide) (fun c_6226 => ?_) (fun c_6226 => ?_)
          · skip
            have hG := hG.trans (if_neg c_6226)
            have gc_6226 := ti_ne c_6226 rfl kc_0
            replace gc_6226 : (-1) * z_6205.toInt + 1 ≤ 0 := by omega
            refine lv_aload_n hx hb dX7_innerLine_198 rfl (lv_at hl 3 rfl) ?_
            refine va_get (D := (dC, dI)) (ci := 7) (v := .int z_6205) (C := RX7) (T := TX7) (N := 48) hx hb hts inX7 hown hK hP 0 rfl rfl 13 (by decide) (hts _ wd_380) (fun _ h9 => h9) rfl dX7_innerLine_199 ?_
            refine lv_if_eq (tgt := 206) hx hb dX7_innerLine_202 (by decide) (fun c_6227 => ?_) (fun c_6227 => ?_)
            · skip
              have hG := hG.trans (if_pos c_6227)
              have gc_6227 := ti_eq c_6227 rfl kc_0
              exfalso; clear hG; omega
            · skip
              have hG := hG.trans (if_neg c_6227)
              have gc_6227 := ti_ne c_6227 rfl kc_0
              replace gc_6227 : (-1) * z_6205.toInt + 1 ≤ 0 := by omega
              exact W.vret hx hb hr (fun t ht hW => ⟨⟨0, rfl, trivial, ⟨z_6198, z_6199, z_6200, z_6201, z_6202, z_6203, z_6204, z_6205, x_6192, f_6206, f_6207, f_6208, f_6194, b_z_6199, b_z_6202, b_z_6205, (by first | assumption | (have q0 := kc_0; have q1 := kc_1; omega)), hi6_n_6209, (by first | assumption | (have q0 := kc_0; have q1 := kc_1; omega)), (fun h9 => by have q0 := kc_0; have q1 := kc_1; omega), (by first | assumption | (have q0 := kc_0; have q1 := kc_1; omega)), hG, Bw.to (hP.sub [0, 1, 2, 3, 4, 5] rfl) (hD.sub [0, 1, 2, 3, 4, 5] (by decide) rfl) (hK.sub [0, 1, 2, 3, 4] rfl) ht hW⟩⟩, hS.F ht⟩) hS.2.2 dX7_innerLine_205
          · skip
            have hG := hG.trans (if_pos c_6226)
            have gc_6226 := ti_eq c_6226 rfl kc_0
            refine lv_aload_n hx hb dX7_innerLine_36 rfl (lv_at hl 3 rfl) ?_
            have hFc := va_free (wc := [(oc7 oM iM_thrown rM_tape iM_taped iM_size z_6198 z_6199 z_6200 z_6201 z_6202 z_6203 z_6204 iM_trouble rM_letters z_6205 iM_hasCourt rM_r rM_fresh rM_told rM_read rM_st rM_undone rM_kept iM_undos iM_images rM_fresher x_6192 iM_scale iM_night rM_heardRow rM_cutRow iM_breaths iM_cutMany iM_allBreaths rM_trial rM_words iM_fewestBreaths iM_orderMany iM_orderSum iM_leastOrder rM_often iM_setMany iM_someOf iM_allOf iM_allWeight iM_enoughWeight iM_worthSum iM_firstRest iM_leastDrawn), (arI rM_letters kM_letters 8 f_6206), (arI rM_fresh kM_fresh 287 f_6207), (arI rM_read kM_read 90 f_6208)]) hD hS hA [0, 2, 3, 4] rfl
            refine va_calli (va_runV (As := []) (rest := []) ⟨hx, hb, hml, hown, hts⟩ (tX7_nodeHere l dC dI _ oM iM_thrown rM_tape iM_taped iM_size z_6198 z_6199 z_6200 z_6201 z_6202 z_6203 z_6204 iM_trouble rM_letters f_6206 kM_letters z_6205 iM_hasCourt rM_r rM_fresh f_6207 kM_fresh rM_told rM_read f_6208 kM_read rM_st rM_undone rM_kept iM_undos iM_images rM_fresher x_6192 iM_scale iM_night rM_heardRow rM_cutRow iM_breaths iM_cutMany iM_allBreaths rM_trial rM_words iM_fewestBreaths iM_orderMany iM_orderSum iM_leastOrder rM_often iM_setMany iM_someOf iM_allOf iM_allWeight iM_enoughWeight iM_worthSum iM_firstRest iM_leastDrawn (by first | omega | decide) (by first | omega | decide) (by first | exact b_z_6199 | omega | decide) (by first | exact b_z_6202 | omega | decide) (by first | exact b_z_6205 | omega | decide) (by first | omega | decide) (by first | omega | decide) (by first | omega | decide) (by first | omega | decide) (by first | omega | decide) (by first | omega | decide) (by first | assumption | exact (fun h9 => by have q0 := kc_0; have q1 := kc_1; omega)) (by assumption)) (cwV 0 hts (wd_V wd_486 wd_487 wd_488 wd_5 (wd_c wd_489)) rfl rfl rfl (by decide +kernel) ⟨Nat.le_of_ble_eq_true rfl, Nat.le_of_ble_eq_true rfl⟩) ⟨Pw.fb, va_recv hK hP (ci := 7) (q0 := 0) rfl rfl, fun U hU hW => Pw.to (hP.sub [0, 2, 3, 4] rfl) (hD.sub [0, 2, 3, 4] (by decide) rfl) (hK.sub [1, 2, 3] rfl) hE hS hFc hU hW⟩ rfl rfl hl.1 rfl (lv_room (Nat.le_of_ble_eq_true rfl)) dX7_innerLine_37 ⟨Nat.le_of_ble_eq_true rfl, Nat.le_of_ble_eq_true rfl⟩) hS (fun q _ h => hFc q h) hFc (fun r u t H locs ht hvm hw hB hz1 hk1 hS => ?_)
            have hru9 := hw.2
            have hw := hw.1
            obtain ⟨x_6228, x_6229, x_6230, b_x_6230, e_x_6228_0, e_x_6228_1, e_x_6228_2, hB⟩ := hB
            obtain ⟨hP, hD, hK⟩ := Bw.go (ws' := [(arI rM_tape kM_tape 900 fM_tape), (arI rM_fresher kM_fresher 8 f_6194), (oc7 oM iM_thrown rM_tape iM_taped iM_size z_6198 z_6199 z_6200 z_6201 z_6202 x_6228 x_6229 iM_trouble rM_letters x_6230 iM_hasCourt rM_r rM_fresh rM_told rM_read rM_st rM_undone rM_kept iM_undos iM_images rM_fresher x_6192 iM_scale iM_night rM_heardRow rM_cutRow iM_breaths iM_cutMany iM_allBreaths rM_trial rM_words iM_fewestBreaths iM_orderMany iM_orderSum iM_leastOrder rM_often iM_setMany iM_someOf iM_allOf iM_allWeight iM_enoughWeight iM_worthSum iM_firstRest iM_leastDrawn), (arI rM_letters kM_letters 8 f_6206), (arI rM_fresh kM_fresh 287 f_6207), (arI rM_read kM_read 90 f_6208)]) (tys' := [(kM_tape, .int), (kM_fresher, .int), (kM_letters, .int), (kM_fresh, .int), (kM_read, .int)]) hB rfl ht hvm hP hD hK [0, 2, 3, 4] [1, 5] rfl (by decide) (by decide) [0, 4] hk1 hFc rfl rfl rfl
            clear hz1 hk1 hvm ht hB
            rw [← hru9] at e_x_6228_2
            obtain ⟨x_6231, rfl⟩ : ∃ z, z = r := ⟨_, rfl⟩
            have hG := hG.trans (un4_eq e_x_6228_2)
            have lx_6231 := hw.2
            have ux_6231 := hw.2
            refine lv_istore (lv' := [(5, .int x_6231), (4, .int z_6197), (3, .int z_6196), (2, .int x_6195), (0, .ref oM), (1, .int p0)]) hx hb dX7_innerLine_40 hl (by decide) rfl (fun ls hl => ?_)
            refine lv_iconst (v := 0) hx hb dX7_innerLine_42 (by decide) ?_
            refine lv_istore (lv' := [(6, .int 0), (5, .int x_6231), (4, .int z_6197), (3, .int z_6196), (2, .int x_6195), (0, .ref oM), (1, .int p0)]) hx hb dX7_innerLine_43 hl (by decide) rfl (fun ls hl => ?_)
            have hl := lv_sub hl (l' := [(6, .int 0), (5, .int x_6231), (4, .int z_6197), (3, .int z_6196), (2, .int x_6195), (0, .ref oM), (1, .int p0)]) [0, 1, 2, 3, 4, 5, 6] rfl
            have key_n_6236 : ∀ (n_6236 : Nat) (z_6232 : Int32) (z_6233 : Int32) (z_6234 : Int32) (z_6235 : Int32) (H : Heap) (locs : List Loc) (ls : Array Slot), (0 ≤ z_6233.toInt ∧ z_6233.toInt ≤ 1) → (0 ≤ z_6232.toInt ∧ z_6232.toInt ≤ z_6196.toInt) → (x_6230.toInt ≤ z_6233.toInt) → (NeI z_6233.toInt z_6232.toNatClampNeg f_6208 x_6195.toNatClampNeg x_6231.toInt) → (z_6196.toInt - z_6232.toInt).toNat < n_6236 → (PX7_innerLine fM_tape iM_size iM_at iM_end iM_token iM_whole iM_nameSize iM_fault iM_place fM_letters iM_failed fM_fresh fM_read fM_fresher iM_fresherSize p0 = HX7_innerLine_1 fM_tape iM_size p0 x_6192 f_6194 x_6195 z_6196 z_6198 z_6199 z_6200 z_6201 z_6202 f_6206 f_6207 f_6208 x_6231 (fun (z_6196 : Int32) (z_6197 : Int32) (z_6198 : Int32) (z_6199 : Int32) (z_6200 : Int32) (z_6201 : Int32) (z_6202 : Int32) (z_6203 : Int32) (z_6204 : Int32) (z_6205 : Int32) (f_6206 : Nat → Int32) (f_6207 : Nat → Int32) (f_6208 : Nat → Int32) => HX7_innerLine_0 fM_tape iM_size p0 x_6192 f_6194 x_6195 n_6209 z_6196 z_6197 z_6198 z_6199 z_6200 z_6201 z_6202 z_6203 z_6204 z_6205 f_6206 f_6207 f_6208) n_6236 z_6232 z_6233 z_6234 z_6235) → va_P (dC, dI) vwCl [(arI rM_tape kM_tape 900 fM_tape), (arI rM_fresher kM_fresher 8 f_6194), (oc7 oM iM_thrown rM_tape iM_taped iM_size z_6198 z_6199 z_6200 z_6201 z_6202 z_6234 z_6235 iM_trouble rM_letters z_6233 iM_hasCourt rM_r rM_fresh rM_told rM_read rM_st rM_undone rM_kept iM_undos iM_images rM_fresher x_6192 iM_scale iM_night rM_heardRow rM_cutRow iM_breaths iM_cutMany iM_allBreaths rM_trial rM_words iM_fewestBreaths iM_orderMany iM_orderSum iM_leastOrder rM_often iM_setMany iM_someOf iM_allOf iM_allWeight iM_enoughWeight iM_worthSum iM_firstRest iM_leastDrawn), (arI rM_letters kM_letters 8 f_6206), (arI rM_fresh kM_fresh 287 f_6207), (arI rM_read kM_read 90 f_6208)] H → va_D A [(arI rM_tape kM_tape 900 fM_tape), (arI rM_fresher kM_fresher 8 f_6194), (oc7 oM iM_thrown rM_tape iM_taped iM_size z_6198 z_6199 z_6200 z_6201 z_6202 z_6234 z_6235 iM_trouble rM_letters z_6233 iM_hasCourt rM_r rM_fresh rM_told rM_read rM_st rM_undone rM_kept iM_undos iM_images rM_fresher x_6192 iM_scale iM_night rM_heardRow rM_cutRow iM_breaths iM_cutMany iM_allBreaths rM_trial rM_words iM_fewestBreaths iM_orderMany iM_orderSum iM_leastOrder rM_often iM_setMany iM_someOf iM_allOf iM_allWeight iM_enoughWeight iM_worthSum iM_firstRest iM_leastDrawn), (arI rM_letters kM_letters 8 f_6206), (arI rM_fresh kM_fresh 287 f_6207), (arI rM_read kM_read 90 f_6208)] → va_S A s.heap H locs → lv_has ls 7 [(6, .int z_6232), (5, .int x_6231), (4, .int z_6197), (3, .int z_6196), (2, .int x_6195), (0, .ref oM), (1, .int p0)] → W p l e (headSpec (Cond.code yX7_innerLine cX7_innerLine 7 none :: wG) ({ frames := 7, cells := 0, slots := 0, locals := 175 })).room s m ([.ref oM, .int p0] : List Value).toArray below meth c H locs 0 0 (MQ below (va_Qv (fun (_ : Nat) => True) (fun (_ : Nat) (t : State) => ∃ (niM_at : Int32) (niM_end : Int32) (niM_token : Int32) (niM_whole : Int32) (niM_nameSize : Int32) (niM_fault : Int32) (niM_place : Int32) (niM_failed : Int32) (niM_fresherSize : Int32) (nfM_letters : Nat → Int32) (nfM_fresh : Nat → Int32) (nfM_read : Nat → Int32) (nfM_fresher : Nat → Int32), (0 ≤ niM_end.toInt ∧ niM_end.toInt ≤ 900) ∧ (0 ≤ niM_nameSize.toInt ∧ niM_nameSize.toInt ≤ 900) ∧ (0 ≤ niM_failed.toInt ∧ niM_failed.toInt ≤ 1) ∧ (iM_end.toInt ≤ niM_end.toInt) ∧ (ImpP (niM_token.toInt = 2) (niM_nameSize.toInt ≤ 8)) ∧ (iM_failed.toInt ≤ niM_failed.toInt) ∧ (ImpP (niM_failed.toInt ≤ 0 ∧ niM_token.toInt = 59 ) (iM_end.toInt + 1 ≤ niM_end.toInt)) ∧ (POk nfM_fresh nfM_read) ∧ (PX7_innerLine fM_tape iM_size iM_at iM_end iM_token iM_whole iM_nameSize iM_fault iM_place fM_letters iM_failed fM_fresh fM_read fM_fresher iM_fresherSize p0 = (niM_at, niM_end, niM_token, niM_whole, niM_nameSize, niM_fault, niM_place, niM_failed, niM_fresherSize, nfM_letters, nfM_fresh, nfM_read, nfM_fresher)) ∧ Bw dC dI A [(oc7 oM iM_thrown rM_tape iM_taped iM_size niM_at niM_end niM_token niM_whole niM_nameSize niM_fault niM_place iM_trouble rM_letters niM_failed iM_hasCourt rM_r rM_fresh rM_told rM_read rM_st rM_undone rM_kept iM_undos iM_images rM_fresher niM_fresherSize iM_scale iM_night rM_heardRow rM_cutRow iM_breaths iM_cutMany iM_allBreaths rM_trial rM_words iM_fewestBreaths iM_orderMany iM_orderSum iM_leastOrder rM_often iM_setMany iM_someOf iM_allOf iM_allWeight iM_enoughWeight iM_worthSum iM_firstRest iM_leastDrawn), (arI rM_tape kM_tape 900 fM_tape), (arI rM_letters kM_letters 8 nfM_letters), (arI rM_fresh kM_fresh 287 nfM_fresh), (arI rM_read kM_read 90 nfM_read), (arI rM_fresher kM_fresher 8 nfM_fresher)] [(kM_tape, .int), (kM_letters, .int), (kM_fresh, .int), (kM_read, .int), (kM_fresher, .int)] t) A) ([.ref oM, .int p0] : List Value).toArray s 0 0 A) (F0 m 45 ls []) := by
              intro n_6236
              induction n_6236 with
              | zero => intro z_6232 z_6233 z_6234 z_6235 H locs ls b_z_6233 hi0_n_6236 hi1_n_6236 hi2_n_6236 hm; exact absurd hm (by omega)
              | succ n_6236 ih_n_6236 =>
                intro z_6232 z_6233 z_6234 z_6235 H locs ls b_z_6233 hi0_n_6236 hi1_n_6236 hi2_n_6236 hm hG hP hD hS hl
                have hG := hG.trans (HX7_innerLine_1_eq _ _ _ _ _ _ _ _ _ _ _ _ _ _ _ _ _ _ _ _ _ _)
                refine lv_iload hx hb dX7_innerLine_45 (lv_at hl 0 rfl) ?_
                refine lv_iload_n hx hb dX7_innerLine_47 rfl (lv_at hl 3 rfl) ?_
                refine lv_icmp_ge (tgt := 89) hx hb dX7_innerLine_48 (by decide) (fun c_6237 => ?_) (fun c_6237 => ?_)
                · skip
                  have hG := hG.trans (if_pos c_6237)
                  have gc_6237 := ti_le c_6237 rfl rfl
                  refine lv_aload_n hx hb dX7_innerLine_89 rfl (lv_at hl 5 rfl) ?_
                  refine va_get (D := (dC, dI)) (ci := 7) (v := .int z_6233) (C := RX7) (T := TX7) (N := 48) hx hb hts inX7 hown hK hP 2 rfl rfl 13 (by decide) (hts _ wd_380) (fun _ h9 => h9) rfl dX7_innerLine_90 ?_
                  refine lv_if_ne (tgt := 110) hx hb dX7_innerLine_93 (by decide) (fun c_6238 => ?_) (fun c_6238 => ?_)
                  · skip
                    have hG := hG.trans (if_neg c_6238)
                    have gc_6238 := ti_ne c_6238 rfl kc_0
                    replace gc_6238 : (-1) * z_6233.toInt + 1 ≤ 0 := by omega
                    refine lv_aload_n hx hb dX7_innerLine_110 rfl (lv_at hl 5 rfl) ?_
                    have hFc := va_free (wc := [(oc7 oM iM_thrown rM_tape iM_taped iM_size z_6198 z_6199 z_6200 z_6201 z_6202 z_6234 z_6235 iM_trouble rM_letters z_6233 iM_hasCourt rM_r rM_fresh rM_told rM_read rM_st rM_undone rM_kept iM_undos iM_images rM_fresher x_6192 iM_scale iM_night rM_heardRow rM_cutRow iM_breaths iM_cutMany iM_allBreaths rM_trial rM_words iM_fewestBreaths iM_orderMany iM_orderSum iM_leastOrder rM_often iM_setMany iM_someOf iM_allOf iM_allWeight iM_enoughWeight iM_worthSum iM_firstRest iM_leastDrawn), (arI rM_tape kM_tape 900 fM_tape), (arI rM_letters kM_letters 8 f_6206)]) hD hS hA [2, 0, 3] rfl
                    refine va_callv (va_runV (As := []) (rest := []) ⟨hx, hb, hml, hown, hts⟩ (tX7_pass l dC dI _ oM iM_thrown rM_tape fM_tape kM_tape iM_taped iM_size z_6198 z_6199 z_6200 z_6201 z_6202 z_6234 z_6235 iM_trouble rM_letters f_6206 kM_letters z_6233 iM_hasCourt rM_r rM_fresh rM_told rM_read rM_st rM_undone rM_kept iM_undos iM_images rM_fresher x_6192 iM_scale iM_night rM_heardRow rM_cutRow iM_breaths iM_cutMany iM_allBreaths rM_trial rM_words iM_fewestBreaths iM_orderMany iM_orderSum iM_leastOrder rM_often iM_setMany iM_someOf iM_allOf iM_allWeight iM_enoughWeight iM_worthSum iM_firstRest iM_leastDrawn (by first | omega | decide) (by first | omega | decide) (by first | exact b_z_6199 | omega | decide) (by first | exact b_z_6202 | omega | decide) (by first | exact b_z_6233 | omega | decide) (by first | omega | decide) (by first | omega | decide) (by first | omega | decide) (by first | omega | decide) (by first | omega | decide) (by first | omega | decide) (by first | assumption | exact (fun h9 => by have q0 := kc_0; have q1 := kc_1; omega))) (cwV 0 hts (wd_V wd_454 wd_455 wd_456 wd_5 (wd_c wd_457)) rfl rfl rfl (by decide +kernel) ⟨Nat.le_of_ble_eq_true rfl, Nat.le_of_ble_eq_true rfl⟩) ⟨Pw.fb, va_recv hK hP (ci := 7) (q0 := 2) rfl rfl, fun U hU hW => Pw.to (hP.sub [2, 0, 3] rfl) (hD.sub [2, 0, 3] (by decide) rfl) (hK.sub [0, 2] rfl) hE hS hFc hU hW⟩ rfl rfl hl.1 rfl (lv_room (Nat.le_of_ble_eq_true rfl)) dX7_innerLine_111 ⟨Nat.le_of_ble_eq_true rfl, Nat.le_of_ble_eq_true rfl⟩) hS (fun q _ h => hFc q h) hFc (fun u t H locs ht hvm hw hB hz1 hk1 hS => ?_)
                    obtain ⟨x_6239, x_6240, x_6241, x_6242, x_6243, f_6244, b_x_6240, b_x_6243, e_x_6239_0, e_x_6239_1, e_x_6239_2, e_x_6239_3, hB⟩ := hB
                    obtain ⟨hP, hD, hK⟩ := Bw.go (ws' := [(arI rM_fresher kM_fresher 8 f_6194), (arI rM_fresh kM_fresh 287 f_6207), (arI rM_read kM_read 90 f_6208), (oc7 oM iM_thrown rM_tape iM_taped iM_size x_6239 x_6240 x_6241 x_6242 x_6243 z_6234 z_6235 iM_trouble rM_letters z_6233 iM_hasCourt rM_r rM_fresh rM_told rM_read rM_st rM_undone rM_kept iM_undos iM_images rM_fresher x_6192 iM_scale iM_night rM_heardRow rM_cutRow iM_breaths iM_cutMany iM_allBreaths rM_trial rM_words iM_fewestBreaths iM_orderMany iM_orderSum iM_leastOrder rM_often iM_setMany iM_someOf iM_allOf iM_allWeight iM_enoughWeight iM_worthSum iM_firstRest iM_leastDrawn), (arI rM_tape kM_tape 900 fM_tape), (arI rM_letters kM_letters 8 f_6244)]) (tys' := [(kM_fresher, .int), (kM_fresh, .int), (kM_read, .int), (kM_tape, .int), (kM_letters, .int)]) hB rfl ht hvm hP hD hK [2, 0, 3] [1, 4, 5] rfl (by decide) (by decide) [1, 3, 4] hk1 hFc rfl rfl rfl
                    clear hz1 hk1 hvm ht hB
                    have hG := hG.trans (un6_eq e_x_6239_3)
                    clear hi6_n_6209
                    clear hi8_n_6209
                    refine lv_iload_n hx hb dX7_innerLine_114 rfl (lv_at hl 6 rfl) ?_
                    refine lv_iconst (v := 3) hx hb dX7_innerLine_115 (by decide) ?_
                    refine lv_icmp_ne (tgt := 129) hx hb dX7_innerLine_116 (by decide) (fun c_6245 => ?_) (fun c_6245 => ?_)
                    · skip
                      have hG := hG.trans (if_neg c_6245)
                      have gc_6245 := ti_ne c_6245 rfl kc_3
                      replace gc_6245 : p0.toInt + (-2) ≤ 0 := by omega
                      clear hic
                      refine lv_iconst (v := 0) hx hb dX7_innerLine_129 (by decide) ?_
                      refine lv_istore (lv' := [(6, .int 0), (5, .int x_6231), (4, .int z_6197), (3, .int z_6196), (2, .int x_6195), (0, .ref oM), (1, .int p0)]) hx hb dX7_innerLine_130 hl (by decide) rfl (fun ls hl => ?_)
                      refine lv_aload_n hx hb dX7_innerLine_132 rfl (lv_at hl 5 rfl) ?_
                      refine va_get (D := (dC, dI)) (ci := 7) (v := .int z_6233) (C := RX7) (T := TX7) (N := 48) hx hb hts inX7 hown hK hP 3 rfl rfl 13 (by decide) (hts _ wd_380) (fun _ h9 => h9) rfl dX7_innerLine_133 ?_
                      refine lv_if_eq (tgt := 140) hx hb dX7_innerLine_136 (by decide) (fun c_6246 => ?_) (fun c_6246 => ?_)
                      · skip
                        have hG := hG.trans (if_pos c_6246)
                        have gc_6246 := ti_eq c_6246 rfl kc_0
                        exfalso; clear hG; omega
                      · skip
                        have hG := hG.trans (if_neg c_6246)
                        have gc_6246 := ti_ne c_6246 rfl kc_0
                        replace gc_6246 : (-1) * z_6233.toInt + 1 ≤ 0 := by omega
                        exact W.vret hx hb hr (fun t ht hW => ⟨⟨0, rfl, trivial, ⟨x_6239, x_6240, x_6241, x_6242, x_6243, z_6234, z_6235, z_6233, x_6192, f_6244, f_6207, f_6208, f_6194, b_x_6240, b_x_6243, b_z_6233, (by first | assumption | (have q0 := kc_0; have q1 := kc_1; omega)), e_x_6239_1, (by first | assumption | (have q0 := kc_0; have q1 := kc_1; omega)), (fun h9 => by have q0 := kc_0; have q1 := kc_1; omega), (by first | assumption | (have q0 := kc_0; have q1 := kc_1; omega)), hG, Bw.to (hP.sub [3, 4, 5, 1, 2, 0] rfl) (hD.sub [3, 4, 5, 1, 2, 0] (by decide) rfl) (hK.sub [3, 4, 1, 2, 0] rfl) ht hW⟩⟩, hS.F ht⟩) hS.2.2 dX7_innerLine_139
                    · skip
                      have hG := hG.trans (if_pos c_6245)
                      have gc_6245 := ti_eq c_6245 rfl kc_3
                      have h_6247 := hic (by omega)
                      clear hic
                      refine lv_aload_n hx hb dX7_innerLine_119 rfl (lv_at hl 5 rfl) ?_
                      refine lv_iconst (v := 1) hx hb dX7_innerLine_120 (by decide) ?_
                      refine lv_bipush (v := 9) hx hb dX7_innerLine_121 (by decide) ?_
                      have hFc := va_free (wc := [(oc7 oM iM_thrown rM_tape iM_taped iM_size x_6239 x_6240 x_6241 x_6242 x_6243 z_6234 z_6235 iM_trouble rM_letters z_6233 iM_hasCourt rM_r rM_fresh rM_told rM_read rM_st rM_undone rM_kept iM_undos iM_images rM_fresher x_6192 iM_scale iM_night rM_heardRow rM_cutRow iM_breaths iM_cutMany iM_allBreaths rM_trial rM_words iM_fewestBreaths iM_orderMany iM_orderSum iM_leastOrder rM_often iM_setMany iM_someOf iM_allOf iM_allWeight iM_enoughWeight iM_worthSum iM_firstRest iM_leastDrawn), (arI rM_tape kM_tape 900 fM_tape), (arI rM_letters kM_letters 8 f_6244)]) hD hS hA [3, 4, 5] rfl
                      refine va_calli (va_runV (As := [.int 1, .int 9]) (rest := []) ⟨hx, hb, hml, hown, hts⟩ (tX7_number l dC dI _ oM iM_thrown rM_tape fM_tape kM_tape iM_taped iM_size x_6239 x_6240 x_6241 x_6242 x_6243 z_6234 z_6235 iM_trouble rM_letters f_6244 kM_letters z_6233 iM_hasCourt rM_r rM_fresh rM_told rM_read rM_st rM_undone rM_kept iM_undos iM_images rM_fresher x_6192 iM_scale iM_night rM_heardRow rM_cutRow iM_breaths iM_cutMany iM_allBreaths rM_trial rM_words iM_fewestBreaths iM_orderMany iM_orderSum iM_leastOrder rM_often iM_setMany iM_someOf iM_allOf iM_allWeight iM_enoughWeight iM_worthSum iM_firstRest iM_leastDrawn 1 9 (by first | omega | decide) (by first | omega | decide) (by first | exact b_x_6240 | omega | decide) (by first | exact b_x_6243 | omega | decide) (by first | exact b_z_6233 | omega | decide) (by first | omega | decide) (by first | omega | decide) (by first | omega | decide) (by first | omega | decide) (by first | omega | decide) (by first | omega | decide) (by first | assumption | exact (fun h9 => by have q0 := kc_0; have q1 := kc_1; omega)) (by first | omega | decide | assumption | (have q0 := kc_0; have q1 := kc_1; have q2 := kc_9; omega) | (intro h; exact absurd h (by decide)))) (cwV 2 hts (wd_V wd_446 wd_447 wd_448 wd_5 (wd_c wd_449)) rfl rfl rfl (by decide +kernel) ⟨Nat.le_of_ble_eq_true rfl, Nat.le_of_ble_eq_true rfl⟩) ⟨Pw.fb, va_recv hK hP (ci := 7) (q0 := 3) rfl rfl, fun U hU hW => Pw.to (hP.sub [3, 4, 5] rfl) (hD.sub [3, 4, 5] (by decide) rfl) (hK.sub [3, 4] rfl) hE hS hFc hU hW⟩ rfl rfl hl.1 rfl (lv_room (Nat.le_of_ble_eq_true rfl)) dX7_innerLine_123 ⟨Nat.le_of_ble_eq_true rfl, Nat.le_of_ble_eq_true rfl⟩) hS (fun q _ h => hFc q h) hFc (fun r u t H locs ht hvm hw hB hz1 hk1 hS => ?_)
                      have hru9 := hw.2
                      have hw := hw.1
                      obtain ⟨x_6248, x_6249, x_6250, x_6251, x_6252, x_6253, x_6254, x_6255, f_6256, b_x_6249, b_x_6252, b_x_6255, e_x_6248_0, e_x_6248_1, e_x_6248_2, e_x_6248_3, e_x_6248_4, hB⟩ := hB
                      obtain ⟨hP, hD, hK⟩ := Bw.go (ws' := [(arI rM_fresher kM_fresher 8 f_6194), (arI rM_fresh kM_fresh 287 f_6207), (arI rM_read kM_read 90 f_6208), (oc7 oM iM_thrown rM_tape iM_taped iM_size x_6248 x_6249 x_6250 x_6251 x_6252 x_6253 x_6254 iM_trouble rM_letters x_6255 iM_hasCourt rM_r rM_fresh rM_told rM_read rM_st rM_undone rM_kept iM_undos iM_images rM_fresher x_6192 iM_scale iM_night rM_heardRow rM_cutRow iM_breaths iM_cutMany iM_allBreaths rM_trial rM_words iM_fewestBreaths iM_orderMany iM_orderSum iM_leastOrder rM_often iM_setMany iM_someOf iM_allOf iM_allWeight iM_enoughWeight iM_worthSum iM_firstRest iM_leastDrawn), (arI rM_tape kM_tape 900 fM_tape), (arI rM_letters kM_letters 8 f_6256)]) (tys' := [(kM_fresher, .int), (kM_fresh, .int), (kM_read, .int), (kM_tape, .int), (kM_letters, .int)]) hB rfl ht hvm hP hD hK [3, 4, 5] [0, 1, 2] rfl (by decide) (by decide) [0, 1, 2] hk1 hFc rfl rfl rfl
                      clear hz1 hk1 hvm ht hB
                      rw [← hru9] at e_x_6248_4
                      obtain ⟨x_6257, rfl⟩ : ∃ z, z = r := ⟨_, rfl⟩
                      have hG := hG.trans (un10_eq e_x_6248_4)
                      have lx_6257 := hw.2
                      have kl_1 := kc_1
                      have kl_9 := kc_9
                      clear e_x_6239_1
                      clear e_x_6239_2
                      refine lv_goto (tgt := 130) hx hb dX7_innerLine_126 (by decide) ?_
                      refine lv_istore (lv' := [(6, .int x_6257), (5, .int x_6231), (4, .int z_6197), (3, .int z_6196), (2, .int x_6195), (0, .ref oM), (1, .int p0)]) hx hb dX7_innerLine_130 hl (by decide) rfl (fun ls hl => ?_)
                      refine lv_aload_n hx hb dX7_innerLine_132 rfl (lv_at hl 5 rfl) ?_
                      refine va_get (D := (dC, dI)) (ci := 7) (v := .int x_6255) (C := RX7) (T := TX7) (N := 48) hx hb hts inX7 hown hK hP 3 rfl rfl 13 (by decide) (hts _ wd_380) (fun _ h9 => h9) rfl dX7_innerLine_133 ?_
                      refine lv_if_eq (tgt := 140) hx hb dX7_innerLine_136 (by decide) (fun c_6258 => ?_) (fun c_6258 => ?_)
                      · skip
                        have hG := hG.trans (if_pos c_6258)
                        have gc_6258 := ti_eq c_6258 rfl kc_0
                        exfalso; clear hG; omega
                      · skip
                        have hG := hG.trans (if_neg c_6258)
                        have gc_6258 := ti_ne c_6258 rfl kc_0
                        replace gc_6258 : (-1) * x_6255.toInt + 1 ≤ 0 := by omega
                        exact W.vret hx hb hr (fun t ht hW => ⟨⟨0, rfl, trivial, ⟨x_6248, x_6249, x_6250, x_6251, x_6252, x_6253, x_6254, x_6255, x_6192, f_6256, f_6207, f_6208, f_6194, b_x_6249, b_x_6252, b_x_6255, (by first | assumption | (have q0 := kc_0; have q1 := kc_1; omega)), e_x_6248_1, (by first | assumption | (have q0 := kc_0; have q1 := kc_1; omega)), (fun h9 => by have q0 := kc_0; have q1 := kc_1; omega), (by first | assumption | (have q0 := kc_0; have q1 := kc_1; omega)), hG, Bw.to (hP.sub [3, 4, 5, 1, 2, 0] rfl) (hD.sub [3, 4, 5, 1, 2, 0] (by decide) rfl) (hK.sub [3, 4, 1, 2, 0] rfl) ht hW⟩⟩, hS.F ht⟩) hS.2.2 dX7_innerLine_139
                  · skip
                    have hG := hG.trans (if_pos c_6238)
                    have gc_6238 := ti_eq c_6238 rfl kc_0
                    have h_6259 := e_x_6228_1 (by omega)
                    clear e_x_6228_1
                    have h_6260 := lx_6231.2.1 (by omega)
                    refine lv_iload_n hx hb dX7_innerLine_96 rfl (lv_at hl 3 rfl) ?_
                    refine lv_iconst (v := 4) hx hb dX7_innerLine_97 (by decide) ?_
                    refine lv_icmp_ne (tgt := 110) hx hb dX7_innerLine_98 (by decide) (fun c_6261 => ?_) (fun c_6261 => ?_)
                    · skip
                      have hG := hG.trans (if_neg c_6261)
                      have gc_6261 := ti_ne c_6261 rfl kc_4
                      replace gc_6261 : z_6196.toInt + (-3) ≤ 0 := by omega
                      refine lv_aload_n hx hb dX7_innerLine_110 rfl (lv_at hl 5 rfl) ?_
                      have hFc := va_free (wc := [(oc7 oM iM_thrown rM_tape iM_taped iM_size z_6198 z_6199 z_6200 z_6201 z_6202 z_6234 z_6235 iM_trouble rM_letters z_6233 iM_hasCourt rM_r rM_fresh rM_told rM_read rM_st rM_undone rM_kept iM_undos iM_images rM_fresher x_6192 iM_scale iM_night rM_heardRow rM_cutRow iM_breaths iM_cutMany iM_allBreaths rM_trial rM_words iM_fewestBreaths iM_orderMany iM_orderSum iM_leastOrder rM_often iM_setMany iM_someOf iM_allOf iM_allWeight iM_enoughWeight iM_worthSum iM_firstRest iM_leastDrawn), (arI rM_tape kM_tape 900 fM_tape), (arI rM_letters kM_letters 8 f_6206)]) hD hS hA [2, 0, 3] rfl
                      refine va_callv (va_runV (As := []) (rest := []) ⟨hx, hb, hml, hown, hts⟩ (tX7_pass l dC dI _ oM iM_thrown rM_tape fM_tape kM_tape iM_taped iM_size z_6198 z_6199 z_6200 z_6201 z_6202 z_6234 z_6235 iM_trouble rM_letters f_6206 kM_letters z_6233 iM_hasCourt rM_r rM_fresh rM_told rM_read rM_st rM_undone rM_kept iM_undos iM_images rM_fresher x_6192 iM_scale iM_night rM_heardRow rM_cutRow iM_breaths iM_cutMany iM_allBreaths rM_trial rM_words iM_fewestBreaths iM_orderMany iM_orderSum iM_leastOrder rM_often iM_setMany iM_someOf iM_allOf iM_allWeight iM_enoughWeight iM_worthSum iM_firstRest iM_leastDrawn (by first | omega | decide) (by first | omega | decide) (by first | exact b_z_6199 | omega | decide) (by first | exact b_z_6202 | omega | decide) (by first | exact b_z_6233 | omega | decide) (by first | omega | decide) (by first | omega | decide) (by first | omega | decide) (by first | omega | decide) (by first | omega | decide) (by first | omega | decide) (by first | assumption | exact (fun h9 => by have q0 := kc_0; have q1 := kc_1; omega))) (cwV 0 hts (wd_V wd_454 wd_455 wd_456 wd_5 (wd_c wd_457)) rfl rfl rfl (by decide +kernel) ⟨Nat.le_of_ble_eq_true rfl, Nat.le_of_ble_eq_true rfl⟩) ⟨Pw.fb, va_recv hK hP (ci := 7) (q0 := 2) rfl rfl, fun U hU hW => Pw.to (hP.sub [2, 0, 3] rfl) (hD.sub [2, 0, 3] (by decide) rfl) (hK.sub [0, 2] rfl) hE hS hFc hU hW⟩ rfl rfl hl.1 rfl (lv_room (Nat.le_of_ble_eq_true rfl)) dX7_innerLine_111 ⟨Nat.le_of_ble_eq_true rfl, Nat.le_of_ble_eq_true rfl⟩) hS (fun q _ h => hFc q h) hFc (fun u t H locs ht hvm hw hB hz1 hk1 hS => ?_)
                      obtain ⟨x_6262, x_6263, x_6264, x_6265, x_6266, f_6267, b_x_6263, b_x_6266, e_x_6262_0, e_x_6262_1, e_x_6262_2, e_x_6262_3, hB⟩ := hB
                      obtain ⟨hP, hD, hK⟩ := Bw.go (ws' := [(arI rM_fresher kM_fresher 8 f_6194), (arI rM_fresh kM_fresh 287 f_6207), (arI rM_read kM_read 90 f_6208), (oc7 oM iM_thrown rM_tape iM_taped iM_size x_6262 x_6263 x_6264 x_6265 x_6266 z_6234 z_6235 iM_trouble rM_letters z_6233 iM_hasCourt rM_r rM_fresh rM_told rM_read rM_st rM_undone rM_kept iM_undos iM_images rM_fresher x_6192 iM_scale iM_night rM_heardRow rM_cutRow iM_breaths iM_cutMany iM_allBreaths rM_trial rM_words iM_fewestBreaths iM_orderMany iM_orderSum iM_leastOrder rM_often iM_setMany iM_someOf iM_allOf iM_allWeight iM_enoughWeight iM_worthSum iM_firstRest iM_leastDrawn), (arI rM_tape kM_tape 900 fM_tape), (arI rM_letters kM_letters 8 f_6267)]) (tys' := [(kM_fresher, .int), (kM_fresh, .int), (kM_read, .int), (kM_tape, .int), (kM_letters, .int)]) hB rfl ht hvm hP hD hK [2, 0, 3] [1, 4, 5] rfl (by decide) (by decide) [1, 3, 4] hk1 hFc rfl rfl rfl
                      clear hz1 hk1 hvm ht hB
                      have hG := hG.trans (un6_eq e_x_6262_3)
                      clear hi6_n_6209
                      clear hi8_n_6209
                      refine lv_iload_n hx hb dX7_innerLine_114 rfl (lv_at hl 6 rfl) ?_
                      refine lv_iconst (v := 3) hx hb dX7_innerLine_115 (by decide) ?_
                      refine lv_icmp_ne (tgt := 129) hx hb dX7_innerLine_116 (by decide) (fun c_6268 => ?_) (fun c_6268 => ?_)
                      · skip
                        have hG := hG.trans (if_neg c_6268)
                        have gc_6268 := ti_ne c_6268 rfl kc_3
                        replace gc_6268 : p0.toInt + (-2) ≤ 0 := by omega
                        clear hic
                        refine lv_iconst (v := 0) hx hb dX7_innerLine_129 (by decide) ?_
                        refine lv_istore (lv' := [(6, .int 0), (5, .int x_6231), (4, .int z_6197), (3, .int z_6196), (2, .int x_6195), (0, .ref oM), (1, .int p0)]) hx hb dX7_innerLine_130 hl (by decide) rfl (fun ls hl => ?_)
                        refine lv_aload_n hx hb dX7_innerLine_132 rfl (lv_at hl 5 rfl) ?_
                        refine va_get (D := (dC, dI)) (ci := 7) (v := .int z_6233) (C := RX7) (T := TX7) (N := 48) hx hb hts inX7 hown hK hP 3 rfl rfl 13 (by decide) (hts _ wd_380) (fun _ h9 => h9) rfl dX7_innerLine_133 ?_
                        refine lv_if_eq (tgt := 140) hx hb dX7_innerLine_136 (by decide) (fun c_6269 => ?_) (fun c_6269 => ?_)
                        · skip
                          have hG := hG.trans (if_pos c_6269)
                          have gc_6269 := ti_eq c_6269 rfl kc_0
                          refine lv_aload_n hx hb dX7_innerLine_140 rfl (lv_at hl 5 rfl) ?_
                          refine va_get (D := (dC, dI)) (ci := 7) (v := .ref rM_read) (C := RX7) (T := TX7) (N := 48) hx hb hts inX7 hown hK hP 3 rfl rfl 18 (by decide) (hts _ wd_158) (fun _ h9 => h9) rfl dX7_innerLine_141 ?_
                          refine lv_iconst (v := 4) hx hb dX7_innerLine_144 (by decide) ?_
                          refine lv_iload_n hx hb dX7_innerLine_145 rfl (lv_at hl 4 rfl) ?_
                          refine lv_imul hx hb dX7_innerLine_146 ?_
                          refine lv_topi (fun x_6270 ex_6270 => ?_)
                          have hG := hG.trans (lt_eq ex_6270)
                          have vx_6270 : x_6270.toInt = 4 * x_6195.toInt := by have q := ti_mul ex_6270 kc_4 rfl (by omega) (by omega); omega
                          refine lv_iload_n hx hb dX7_innerLine_147 rfl (lv_at hl 3 rfl) ?_
                          refine lv_iadd hx hb dX7_innerLine_148 ?_
                          refine lv_topi (fun x_6271 ex_6271 => ?_)
                          have hG := hG.trans (lt_eq ex_6271)
                          have vx_6271 : x_6271.toInt = 4 * x_6195.toInt + z_6196.toInt := by have q := ti_add ex_6271 vx_6270 rfl (by omega) (by omega); omega
                          refine lv_iload hx hb dX7_innerLine_149 (lv_at hl 1 rfl) ?_
                          refine va_iast hx hb hK hP hD hS 2 2 rfl rfl (ti_in vx_6271 (by omega) (by omega)) dX7_innerLine_151 (fun H locs hP hD hS => ?_)
                          obtain ⟨f_6272, ef_6272⟩ : ∃ g : Nat → Int32, g = upd f_6208 x_6271.toNatClampNeg x_6231 := ⟨_, rfl⟩
                          rw [← ef_6272] at hP hD
                          have hG := hG.trans (lt_eq ef_6272)
                          obtain ⟨hP, hD⟩ := wl2 (ws' := [(arI rM_fresher kM_fresher 8 f_6194), (arI rM_fresh kM_fresh 287 f_6207), (arI rM_read kM_read 90 f_6272), (oc7 oM iM_thrown rM_tape iM_taped iM_size x_6262 x_6263 x_6264 x_6265 x_6266 z_6234 z_6235 iM_trouble rM_letters z_6233 iM_hasCourt rM_r rM_fresh rM_told rM_read rM_st rM_undone rM_kept iM_undos iM_images rM_fresher x_6192 iM_scale iM_night rM_heardRow rM_cutRow iM_breaths iM_cutMany iM_allBreaths rM_trial rM_words iM_fewestBreaths iM_orderMany iM_orderSum iM_leastOrder rM_often iM_setMany iM_someOf iM_allOf iM_allWeight iM_enoughWeight iM_worthSum iM_firstRest iM_leastDrawn), (arI rM_tape kM_tape 900 fM_tape), (arI rM_letters kM_letters 8 f_6267)]) hP hD rfl
                          have q_n1 := ti_cl (x := f_6207 1) rfl (by omega)
                          have pk_f_6272 : POk f_6207 f_6272 := POk.prt hi2_n_6209 ef_6272 (by have q9 := ti_cl (x := x_6271) vx_6271 (by omega); omega) (by have q9 := ti_cl (x := x_6271) vx_6271 (by omega); omega)
                          refine lv_aload_n hx hb dX7_innerLine_152 rfl (lv_at hl 5 rfl) ?_
                          refine va_get (D := (dC, dI)) (ci := 7) (v := .ref rM_fresh) (C := RX7) (T := TX7) (N := 48) hx hb hts inX7 hown hK hP 3 rfl rfl 16 (by decide) (hts _ wd_156) (fun _ h9 => h9) rfl dX7_innerLine_153 ?_
                          refine lv_bipush (v := 45) hx hb dX7_innerLine_156 (by decide) ?_
                          refine lv_iconst (v := 4) hx hb dX7_innerLine_158 (by decide) ?_
                          refine lv_iload_n hx hb dX7_innerLine_159 rfl (lv_at hl 4 rfl) ?_
                          refine lv_imul hx hb dX7_innerLine_160 ?_
                          refine lv_topi (fun x_6273 ex_6273 => ?_)
                          have hG := hG.trans (lt_eq ex_6273)
                          have vx_6273 : x_6273.toInt = 4 * x_6195.toInt := by have q := ti_mul ex_6273 kc_4 rfl (by omega) (by omega); omega
                          refine lv_iadd hx hb dX7_innerLine_161 ?_
                          refine lv_topi (fun x_6274 ex_6274 => ?_)
                          have hG := hG.trans (lt_eq ex_6274)
                          have vx_6274 : x_6274.toInt = 4 * x_6195.toInt + 45 := by have q := ti_add ex_6274 kc_45 vx_6273 (by omega) (by omega); omega
                          refine lv_iload_n hx hb dX7_innerLine_162 rfl (lv_at hl 3 rfl) ?_
                          refine lv_iadd hx hb dX7_innerLine_163 ?_
                          refine lv_topi (fun x_6275 ex_6275 => ?_)
                          have hG := hG.trans (lt_eq ex_6275)
                          have vx_6275 : x_6275.toInt = 4 * x_6195.toInt + z_6196.toInt + 45 := by have q := ti_add ex_6275 vx_6274 rfl (by omega) (by omega); omega
                          refine lv_iload hx hb dX7_innerLine_164 (lv_at hl 0 rfl) ?_
                          refine va_iast hx hb hK hP hD hS 1 1 rfl rfl (ti_in vx_6275 (by omega) (by omega)) dX7_innerLine_166 (fun H locs hP hD hS => ?_)
                          obtain ⟨f_6276, ef_6276⟩ : ∃ g : Nat → Int32, g = upd f_6207 x_6275.toNatClampNeg (0 : Int32) := ⟨_, rfl⟩
                          rw [← ef_6276] at hP hD
                          have hG := hG.trans (lt_eq ef_6276)
                          obtain ⟨hP, hD⟩ := wl2 (ws' := [(arI rM_fresher kM_fresher 8 f_6194), (arI rM_fresh kM_fresh 287 f_6276), (arI rM_read kM_read 90 f_6272), (oc7 oM iM_thrown rM_tape iM_taped iM_size x_6262 x_6263 x_6264 x_6265 x_6266 z_6234 z_6235 iM_trouble rM_letters z_6233 iM_hasCourt rM_r rM_fresh rM_told rM_read rM_st rM_undone rM_kept iM_undos iM_images rM_fresher x_6192 iM_scale iM_night rM_heardRow rM_cutRow iM_breaths iM_cutMany iM_allBreaths rM_trial rM_words iM_fewestBreaths iM_orderMany iM_orderSum iM_leastOrder rM_often iM_setMany iM_someOf iM_allOf iM_allWeight iM_enoughWeight iM_worthSum iM_firstRest iM_leastDrawn), (arI rM_tape kM_tape 900 fM_tape), (arI rM_letters kM_letters 8 f_6267)]) hP hD rfl
                          have pk_f_6276 : POk f_6276 f_6272 := POk.put pk_f_6272 ef_6276 (Or.inr (Or.inr (Or.inr (Or.inr (Or.inr (Or.inl (by have q9 := ti_cl (x := x_6275) vx_6275 (by omega); have q8 := kc_0; omega)))))))
                          have pl_f_6276 := pk_f_6276.lins
                          have nn9 : (f_6207 1).toNatClampNeg = x_6195.toNatClampNeg := by have q1 := ti_cl (x := x_6195) rfl (by omega); have q2 := ti_cl (x := f_6207 1) rfl (by omega); have q3 := ti_cl (x := z_6196) rfl (by omega); omega
                          have in9 : InOk f_6276 f_6272 (f_6276 1).toNatClampNeg (z_6196.toNatClampNeg + 1) p0.toInt := in_step hi3_n_6209 rfl ef_6272 (by have q1 := ti_cl (x := x_6195) rfl (by omega); have q2 := ti_cl (x := f_6207 1) rfl (by omega); have q3 := ti_cl (x := z_6196) rfl (by omega); have q9 := ti_cl (x := x_6271) vx_6271 (by omega); omega) ef_6276 (by have q1 := ti_cl (x := x_6195) rfl (by omega); have q2 := ti_cl (x := f_6207 1) rfl (by omega); have q3 := ti_cl (x := z_6196) rfl (by omega); have q9 := ti_cl (x := x_6275) vx_6275 (by omega); omega) (by omega) (by have q1 := ti_cl (x := x_6195) rfl (by omega); have q2 := ti_cl (x := f_6207 1) rfl (by omega); have q3 := ti_cl (x := z_6196) rfl (by omega); omega) (fun i9 h9 => by rw [nn9]; exact hi2_n_6236 (by omega) i9 (by have q1 := ti_cl (x := x_6195) rfl (by omega); have q2 := ti_cl (x := f_6207 1) rfl (by omega); have q3 := ti_cl (x := z_6196) rfl (by omega); have q4 := ti_cl (x := z_6232) rfl (by omega); omega)) (fun h9 => by have q0 := kc_0; omega) rfl
                          have o1_f_6276 : (f_6276 1).toInt = (f_6207 1).toInt := put_at ef_6276 (by have q9 := ti_cl (x := x_6275) vx_6275 (by omega); omega)
                          have o7_f_6276 : (f_6276 7).toInt = (f_6207 7).toInt := put_at ef_6276 (by have q9 := ti_cl (x := x_6275) vx_6275 (by omega); omega)
                          have o8_f_6276 : (f_6276 8).toInt = (f_6207 8).toInt := put_at ef_6276 (by have q9 := ti_cl (x := x_6275) vx_6275 (by omega); omega)
                          obtain ⟨x_6277, ex_6277⟩ : ∃ z : Int32, z = z_6196 + Int32.ofInt 1 := ⟨_, rfl⟩
                          have hG := hG.trans (lt_eq ex_6277)
                          have vx_6277 : x_6277.toInt = z_6196.toInt + 1 := by have q := ti_add (y := 1) ex_6277 rfl kc_1 (by omega) (by omega); omega
                          refine lv_iinc (v := x_6277) (lv' := [(3, .int x_6277), (6, .int 0), (5, .int x_6231), (4, .int z_6197), (2, .int x_6195), (0, .ref oM), (1, .int p0)]) hx hb dX7_innerLine_167 hl (k := 3) rfl ex_6277.symm (by decide) rfl (fun ls hl => ?_)
                          refine lv_aload_n hx hb dX7_innerLine_170 rfl (lv_at hl 5 rfl) ?_
                          refine va_get (D := (dC, dI)) (ci := 7) (v := .int x_6264) (C := RX7) (T := TX7) (N := 48) hx hb hts inX7 hown hK hP 3 rfl rfl 6 (by decide) (hts _ wd_383) (fun _ h9 => h9) rfl dX7_innerLine_171 ?_
                          refine lv_bipush (v := 44) hx hb dX7_innerLine_174 (by decide) ?_
                          refine lv_icmp_ne (tgt := 183) hx hb dX7_innerLine_176 (by decide) (fun c_6278 => ?_) (fun c_6278 => ?_)
                          · skip
                            have hG := hG.trans (if_neg c_6278)
                            have gc_6278 := ti_ne c_6278 rfl kc_44
                            clear gc_6278
                            refine lv_iconst (v := 0) hx hb dX7_innerLine_183 (by decide) ?_
                            refine lv_istore (lv' := [(4, .int 0), (3, .int x_6277), (6, .int 0), (5, .int x_6231), (2, .int x_6195), (0, .ref oM), (1, .int p0)]) hx hb dX7_innerLine_184 hl (by decide) rfl (fun ls hl => ?_)
                            refine lv_iload hx hb dX7_innerLine_186 (lv_at hl 0 rfl) ?_
                            refine lv_if_eq (tgt := 195) hx hb dX7_innerLine_188 (by decide) (fun _ => ?_) (fun c => absurd c (by decide))
                            refine lv_goto (tgt := 24) hx hb dX7_innerLine_195 (by decide) ?_
                            exact ih_n_6209 x_6277 0 x_6262 x_6263 x_6264 x_6265 x_6266 z_6234 z_6235 z_6233 f_6267 f_6276 f_6272 _ _ _ b_x_6263 b_x_6266 b_z_6233 (by first | omega | decide | assumption) (by first | omega | decide | assumption) (by assumption) (by rw [show x_6277.toNatClampNeg = z_6196.toNatClampNeg + 1 from (by have q1 := ti_cl (x := x_6277) vx_6277 (by omega); have q2 := ti_cl (x := z_6196) rfl (by omega); omega)]; exact in9) (by first | omega | decide | assumption) (fun h9 => by have q0 := kc_0; have q1 := kc_1; omega) e_x_6262_1 (by first | omega | decide | assumption) (fun h9 => by have q0 := kc_0; have q1 := kc_1; have q9 := e_x_6262_2 (by omega); omega) (by omega) hG (hP.sub [3, 4, 5, 1, 2, 0] rfl) (hD.sub [3, 4, 5, 1, 2, 0] (by decide) rfl) hS (lv_sub hl [0, 1, 4, 5, 6] rfl)
                          · skip
                            have hG := hG.trans (if_pos c_6278)
                            have gc_6278 := ti_eq c_6278 rfl kc_44
                            refine lv_iconst (v := 1) hx hb dX7_innerLine_179 (by decide) ?_
                            refine lv_goto (tgt := 184) hx hb dX7_innerLine_180 (by decide) ?_
                            refine lv_istore (lv' := [(4, .int 1), (3, .int x_6277), (6, .int 0), (5, .int x_6231), (2, .int x_6195), (0, .ref oM), (1, .int p0)]) hx hb dX7_innerLine_184 hl (by decide) rfl (fun ls hl => ?_)
                            refine lv_iload hx hb dX7_innerLine_186 (lv_at hl 0 rfl) ?_
                            refine lv_if_eq (tgt := 195) hx hb dX7_innerLine_188 (by decide) (fun c => absurd c (by decide)) (fun _ => ?_)
                            refine lv_aload_n hx hb dX7_innerLine_191 rfl (lv_at hl 5 rfl) ?_
                            have hFc := va_free (wc := [(oc7 oM iM_thrown rM_tape iM_taped iM_size x_6262 x_6263 x_6264 x_6265 x_6266 z_6234 z_6235 iM_trouble rM_letters z_6233 iM_hasCourt rM_r rM_fresh rM_told rM_read rM_st rM_undone rM_kept iM_undos iM_images rM_fresher x_6192 iM_scale iM_night rM_heardRow rM_cutRow iM_breaths iM_cutMany iM_allBreaths rM_trial rM_words iM_fewestBreaths iM_orderMany iM_orderSum iM_leastOrder rM_often iM_setMany iM_someOf iM_allOf iM_allWeight iM_enoughWeight iM_worthSum iM_firstRest iM_leastDrawn), (arI rM_tape kM_tape 900 fM_tape), (arI rM_letters kM_letters 8 f_6267)]) hD hS hA [3, 4, 5] rfl
                            refine va_callv (va_runV (As := []) (rest := []) ⟨hx, hb, hml, hown, hts⟩ (tX7_next l dC dI _ oM iM_thrown rM_tape fM_tape kM_tape iM_taped iM_size x_6262 x_6263 x_6264 x_6265 x_6266 z_6234 z_6235 iM_trouble rM_letters f_6267 kM_letters z_6233 iM_hasCourt rM_r rM_fresh rM_told rM_read rM_st rM_undone rM_kept iM_undos iM_images rM_fresher x_6192 iM_scale iM_night rM_heardRow rM_cutRow iM_breaths iM_cutMany iM_allBreaths rM_trial rM_words iM_fewestBreaths iM_orderMany iM_orderSum iM_leastOrder rM_often iM_setMany iM_someOf iM_allOf iM_allWeight iM_enoughWeight iM_worthSum iM_firstRest iM_leastDrawn (by first | omega | decide) (by first | omega | decide) (by first | exact b_x_6263 | omega | decide) (by first | exact b_x_6266 | omega | decide) (by first | exact b_z_6233 | omega | decide) (by first | omega | decide) (by first | omega | decide) (by first | omega | decide) (by first | omega | decide) (by first | omega | decide) (by first | omega | decide) (by first | assumption | exact (fun h9 => by have q0 := kc_0; have q1 := kc_1; omega))) (cwV 0 hts (wd_V wd_400 wd_401 wd_402 wd_5 (wd_c wd_403)) rfl rfl rfl (by decide +kernel) ⟨Nat.le_of_ble_eq_true rfl, Nat.le_of_ble_eq_true rfl⟩) ⟨Pw.fb, va_recv hK hP (ci := 7) (q0 := 3) rfl rfl, fun U hU hW => Pw.to (hP.sub [3, 4, 5] rfl) (hD.sub [3, 4, 5] (by decide) rfl) (hK.sub [3, 4] rfl) hE hS hFc hU hW⟩ rfl rfl hl.1 rfl (lv_room (Nat.le_of_ble_eq_true rfl)) dX7_innerLine_192 ⟨Nat.le_of_ble_eq_true rfl, Nat.le_of_ble_eq_true rfl⟩) hS (fun q _ h => hFc q h) hFc (fun u t H locs ht hvm hw hB hz1 hk1 hS => ?_)
                            obtain ⟨x_6281, x_6282, x_6283, x_6284, x_6285, f_6286, b_x_6282, b_x_6285, e_x_6281_0, e_x_6281_1, e_x_6281_2, e_x_6281_3, hB⟩ := hB
                            obtain ⟨hP, hD, hK⟩ := Bw.go (ws' := [(arI rM_fresher kM_fresher 8 f_6194), (arI rM_fresh kM_fresh 287 f_6276), (arI rM_read kM_read 90 f_6272), (oc7 oM iM_thrown rM_tape iM_taped iM_size x_6281 x_6282 x_6283 x_6284 x_6285 z_6234 z_6235 iM_trouble rM_letters z_6233 iM_hasCourt rM_r rM_fresh rM_told rM_read rM_st rM_undone rM_kept iM_undos iM_images rM_fresher x_6192 iM_scale iM_night rM_heardRow rM_cutRow iM_breaths iM_cutMany iM_allBreaths rM_trial rM_words iM_fewestBreaths iM_orderMany iM_orderSum iM_leastOrder rM_often iM_setMany iM_someOf iM_allOf iM_allWeight iM_enoughWeight iM_worthSum iM_firstRest iM_leastDrawn), (arI rM_tape kM_tape 900 fM_tape), (arI rM_letters kM_letters 8 f_6286)]) (tys' := [(kM_fresher, .int), (kM_fresh, .int), (kM_read, .int), (kM_tape, .int), (kM_letters, .int)]) hB rfl ht hvm hP hD hK [3, 4, 5] [0, 1, 2] rfl (by decide) (by decide) [0, 1, 2] hk1 hFc rfl rfl rfl
                            clear hz1 hk1 hvm ht hB
                            have hG := hG.trans (un6_eq e_x_6281_3)
                            clear e_x_6262_1
                            clear e_x_6262_2
                            refine lv_goto (tgt := 24) hx hb dX7_innerLine_195 (by decide) ?_
                            exact ih_n_6209 x_6277 1 x_6281 x_6282 x_6283 x_6284 x_6285 z_6234 z_6235 z_6233 f_6286 f_6276 f_6272 _ _ _ b_x_6282 b_x_6285 b_z_6233 (by first | omega | decide | assumption) (by first | omega | decide | assumption) (by assumption) (by rw [show x_6277.toNatClampNeg = z_6196.toNatClampNeg + 1 from (by have q1 := ti_cl (x := x_6277) vx_6277 (by omega); have q2 := ti_cl (x := z_6196) rfl (by omega); omega)]; exact in9) (by first | omega | decide | assumption) (fun h9 => by have q0 := kc_0; have q1 := kc_1; omega) e_x_6281_1 (by first | omega | decide | assumption) (fun h9 => by have q0 := kc_0; have q1 := kc_1; have q9 := e_x_6281_2 (by omega); omega) (by omega) hG (hP.sub [3, 4, 5, 1, 2, 0] rfl) (hD.sub [3, 4, 5, 1, 2, 0] (by decide) rfl) hS (lv_sub hl [0, 1, 4, 5, 6] rfl)
                        · skip
                          have hG := hG.trans (if_neg c_6269)
                          have gc_6269 := ti_ne c_6269 rfl kc_0
                          replace gc_6269 : z_6233.toInt + 1 ≤ 0 := by omega
                          exfalso; clear hG; omega
                      · skip
                        have hG := hG.trans (if_pos c_6268)
                        have gc_6268 := ti_eq c_6268 rfl kc_3
                        have h_6287 := hic (by omega)
                        clear hic
                        refine lv_aload_n hx hb dX7_innerLine_119 rfl (lv_at hl 5 rfl) ?_
                        refine lv_iconst (v := 1) hx hb dX7_innerLine_120 (by decide) ?_
                        refine lv_bipush (v := 9) hx hb dX7_innerLine_121 (by decide) ?_
                        have hFc := va_free (wc := [(oc7 oM iM_thrown rM_tape iM_taped iM_size x_6262 x_6263 x_6264 x_6265 x_6266 z_6234 z_6235 iM_trouble rM_letters z_6233 iM_hasCourt rM_r rM_fresh rM_told rM_read rM_st rM_undone rM_kept iM_undos iM_images rM_fresher x_6192 iM_scale iM_night rM_heardRow rM_cutRow iM_breaths iM_cutMany iM_allBreaths rM_trial rM_words iM_fewestBreaths iM_orderMany iM_orderSum iM_leastOrder rM_often iM_setMany iM_someOf iM_allOf iM_allWeight iM_enoughWeight iM_worthSum iM_firstRest iM_leastDrawn), (arI rM_tape kM_tape 900 fM_tape), (arI rM_letters kM_letters 8 f_6267)]) hD hS hA [3, 4, 5] rfl
                        refine va_calli (va_runV (As := [.int 1, .int 9]) (rest := []) ⟨hx, hb, hml, hown, hts⟩ (tX7_number l dC dI _ oM iM_thrown rM_tape fM_tape kM_tape iM_taped iM_size x_6262 x_6263 x_6264 x_6265 x_6266 z_6234 z_6235 iM_trouble rM_letters f_6267 kM_letters z_6233 iM_hasCourt rM_r rM_fresh rM_told rM_read rM_st rM_undone rM_kept iM_undos iM_images rM_fresher x_6192 iM_scale iM_night rM_heardRow rM_cutRow iM_breaths iM_cutMany iM_allBreaths rM_trial rM_words iM_fewestBreaths iM_orderMany iM_orderSum iM_leastOrder rM_often iM_setMany iM_someOf iM_allOf iM_allWeight iM_enoughWeight iM_worthSum iM_firstRest iM_leastDrawn 1 9 (by first | omega | decide) (by first | omega | decide) (by first | exact b_x_6263 | omega | decide) (by first | exact b_x_6266 | omega | decide) (by first | exact b_z_6233 | omega | decide) (by first | omega | decide) (by first | omega | decide) (by first | omega | decide) (by first | omega | decide) (by first | omega | decide) (by first | omega | decide) (by first | assumption | exact (fun h9 => by have q0 := kc_0; have q1 := kc_1; omega)) (by first | omega | decide | assumption | (have q0 := kc_0; have q1 := kc_1; have q2 := kc_9; omega) | (intro h; exact absurd h (by decide)))) (cwV 2 hts (wd_V wd_446 wd_447 wd_448 wd_5 (wd_c wd_449)) rfl rfl rfl (by decide +kernel) ⟨Nat.le_of_ble_eq_true rfl, Nat.le_of_ble_eq_true rfl⟩) ⟨Pw.fb, va_recv hK hP (ci := 7) (q0 := 3) rfl rfl, fun U hU hW => Pw.to (hP.sub [3, 4, 5] rfl) (hD.sub [3, 4, 5] (by decide) rfl) (hK.sub [3, 4] rfl) hE hS hFc hU hW⟩ rfl rfl hl.1 rfl (lv_room (Nat.le_of_ble_eq_true rfl)) dX7_innerLine_123 ⟨Nat.le_of_ble_eq_true rfl, Nat.le_of_ble_eq_true rfl⟩) hS (fun q _ h => hFc q h) hFc (fun r u t H locs ht hvm hw hB hz1 hk1 hS => ?_)
                        have hru9 := hw.2
                        have hw := hw.1
                        obtain ⟨x_6288, x_6289, x_6290, x_6291, x_6292, x_6293, x_6294, x_6295, f_6296, b_x_6289, b_x_6292, b_x_6295, e_x_6288_0, e_x_6288_1, e_x_6288_2, e_x_6288_3, e_x_6288_4, hB⟩ := hB
                        obtain ⟨hP, hD, hK⟩ := Bw.go (ws' := [(arI rM_fresher kM_fresher 8 f_6194), (arI rM_fresh kM_fresh 287 f_6207), (arI rM_read kM_read 90 f_6208), (oc7 oM iM_thrown rM_tape iM_taped iM_size x_6288 x_6289 x_6290 x_6291 x_6292 x_6293 x_6294 iM_trouble rM_letters x_6295 iM_hasCourt rM_r rM_fresh rM_told rM_read rM_st rM_undone rM_kept iM_undos iM_images rM_fresher x_6192 iM_scale iM_night rM_heardRow rM_cutRow iM_breaths iM_cutMany iM_allBreaths rM_trial rM_words iM_fewestBreaths iM_orderMany iM_orderSum iM_leastOrder rM_often iM_setMany iM_someOf iM_allOf iM_allWeight iM_enoughWeight iM_worthSum iM_firstRest iM_leastDrawn), (arI rM_tape kM_tape 900 fM_tape), (arI rM_letters kM_letters 8 f_6296)]) (tys' := [(kM_fresher, .int), (kM_fresh, .int), (kM_read, .int), (kM_tape, .int), (kM_letters, .int)]) hB rfl ht hvm hP hD hK [3, 4, 5] [0, 1, 2] rfl (by decide) (by decide) [0, 1, 2] hk1 hFc rfl rfl rfl
                        clear hz1 hk1 hvm ht hB
                        rw [← hru9] at e_x_6288_4
                        obtain ⟨x_6297, rfl⟩ : ∃ z, z = r := ⟨_, rfl⟩
                        have hG := hG.trans (un10_eq e_x_6288_4)
                        have lx_6297 := hw.2
                        have kl_1 := kc_1
                        have kl_9 := kc_9
                        clear e_x_6262_1
                        clear e_x_6262_2
                        refine lv_goto (tgt := 130) hx hb dX7_innerLine_126 (by decide) ?_
                        refine lv_istore (lv' := [(6, .int x_6297), (5, .int x_6231), (4, .int z_6197), (3, .int z_6196), (2, .int x_6195), (0, .ref oM), (1, .int p0)]) hx hb dX7_innerLine_130 hl (by decide) rfl (fun ls hl => ?_)
                        refine lv_aload_n hx hb dX7_innerLine_132 rfl (lv_at hl 5 rfl) ?_
                        refine va_get (D := (dC, dI)) (ci := 7) (v := .int x_6295) (C := RX7) (T := TX7) (N := 48) hx hb hts inX7 hown hK hP 3 rfl rfl 13 (by decide) (hts _ wd_380) (fun _ h9 => h9) rfl dX7_innerLine_133 ?_
                        refine lv_if_eq (tgt := 140) hx hb dX7_innerLine_136 (by decide) (fun c_6298 => ?_) (fun c_6298 => ?_)
                        · skip
                          have hG := hG.trans (if_pos c_6298)
                          have gc_6298 := ti_eq c_6298 rfl kc_0
                          refine lv_aload_n hx hb dX7_innerLine_140 rfl (lv_at hl 5 rfl) ?_
                          refine va_get (D := (dC, dI)) (ci := 7) (v := .ref rM_read) (C := RX7) (T := TX7) (N := 48) hx hb hts inX7 hown hK hP 3 rfl rfl 18 (by decide) (hts _ wd_158) (fun _ h9 => h9) rfl dX7_innerLine_141 ?_
                          refine lv_iconst (v := 4) hx hb dX7_innerLine_144 (by decide) ?_
                          refine lv_iload_n hx hb dX7_innerLine_145 rfl (lv_at hl 4 rfl) ?_
                          refine lv_imul hx hb dX7_innerLine_146 ?_
                          refine lv_topi (fun x_6299 ex_6299 => ?_)
                          have hG := hG.trans (lt_eq ex_6299)
                          have vx_6299 : x_6299.toInt = 4 * x_6195.toInt := by have q := ti_mul ex_6299 kc_4 rfl (by omega) (by omega); omega
                          refine lv_iload_n hx hb dX7_innerLine_147 rfl (lv_at hl 3 rfl) ?_
                          refine lv_iadd hx hb dX7_innerLine_148 ?_
                          refine lv_topi (fun x_6300 ex_6300 => ?_)
                          have hG := hG.trans (lt_eq ex_6300)
                          have vx_6300 : x_6300.toInt = 4 * x_6195.toInt + z_6196.toInt := by have q := ti_add ex_6300 vx_6299 rfl (by omega) (by omega); omega
                          refine lv_iload hx hb dX7_innerLine_149 (lv_at hl 1 rfl) ?_
                          refine va_iast hx hb hK hP hD hS 2 2 rfl rfl (ti_in vx_6300 (by omega) (by omega)) dX7_innerLine_151 (fun H locs hP hD hS => ?_)
                          obtain ⟨f_6301, ef_6301⟩ : ∃ g : Nat → Int32, g = upd f_6208 x_6300.toNatClampNeg x_6231 := ⟨_, rfl⟩
                          rw [← ef_6301] at hP hD
                          have hG := hG.trans (lt_eq ef_6301)
                          obtain ⟨hP, hD⟩ := wl2 (ws' := [(arI rM_fresher kM_fresher 8 f_6194), (arI rM_fresh kM_fresh 287 f_6207), (arI rM_read kM_read 90 f_6301), (oc7 oM iM_thrown rM_tape iM_taped iM_size x_6288 x_6289 x_6290 x_6291 x_6292 x_6293 x_6294 iM_trouble rM_letters x_6295 iM_hasCourt rM_r rM_fresh rM_told rM_read rM_st rM_undone rM_kept iM_undos iM_images rM_fresher x_6192 iM_scale iM_night rM_heardRow rM_cutRow iM_breaths iM_cutMany iM_allBreaths rM_trial rM_words iM_fewestBreaths iM_orderMany iM_orderSum iM_leastOrder rM_often iM_setMany iM_someOf iM_allOf iM_allWeight iM_enoughWeight iM_worthSum iM_firstRest iM_leastDrawn), (arI rM_tape kM_tape 900 fM_tape), (arI rM_letters kM_letters 8 f_6296)]) hP hD rfl
                          have q_n1 := ti_cl (x := f_6207 1) rfl (by omega)
                          have pk_f_6301 : POk f_6207 f_6301 := POk.prt hi2_n_6209 ef_6301 (by have q9 := ti_cl (x := x_6300) vx_6300 (by omega); omega) (by have q9 := ti_cl (x := x_6300) vx_6300 (by omega); omega)
                          refine lv_aload_n hx hb dX7_innerLine_152 rfl (lv_at hl 5 rfl) ?_
                          refine va_get (D := (dC, dI)) (ci := 7) (v := .ref rM_fresh) (C := RX7) (T := TX7) (N := 48) hx hb hts inX7 hown hK hP 3 rfl rfl 16 (by decide) (hts _ wd_156) (fun _ h9 => h9) rfl dX7_innerLine_153 ?_
                          refine lv_bipush (v := 45) hx hb dX7_innerLine_156 (by decide) ?_
                          refine lv_iconst (v := 4) hx hb dX7_innerLine_158 (by decide) ?_
                          refine lv_iload_n hx hb dX7_innerLine_159 rfl (lv_at hl 4 rfl) ?_
                          refine lv_imul hx hb dX7_innerLine_160 ?_
                          refine lv_topi (fun x_6302 ex_6302 => ?_)
                          have hG := hG.trans (lt_eq ex_6302)
                          have vx_6302 : x_6302.toInt = 4 * x_6195.toInt := by have q := ti_mul ex_6302 kc_4 rfl (by omega) (by omega); omega
                          refine lv_iadd hx hb dX7_innerLine_161 ?_
                          refine lv_topi (fun x_6303 ex_6303 => ?_)
                          have hG := hG.trans (lt_eq ex_6303)
                          have vx_6303 : x_6303.toInt = 4 * x_6195.toInt + 45 := by have q := ti_add ex_6303 kc_45 vx_6302 (by omega) (by omega); omega
                          refine lv_iload_n hx hb dX7_innerLine_162 rfl (lv_at hl 3 rfl) ?_
                          refine lv_iadd hx hb dX7_innerLine_163 ?_
                          refine lv_topi (fun x_6304 ex_6304 => ?_)
                          have hG := hG.trans (lt_eq ex_6304)
                          have vx_6304 : x_6304.toInt = 4 * x_6195.toInt + z_6196.toInt + 45 := by have q := ti_add ex_6304 vx_6303 rfl (by omega) (by omega); omega
                          refine lv_iload hx hb dX7_innerLine_164 (lv_at hl 0 rfl) ?_
                          refine va_iast hx hb hK hP hD hS 1 1 rfl rfl (ti_in vx_6304 (by omega) (by omega)) dX7_innerLine_166 (fun H locs hP hD hS => ?_)
                          obtain ⟨f_6305, ef_6305⟩ : ∃ g : Nat → Int32, g = upd f_6207 x_6304.toNatClampNeg x_6297 := ⟨_, rfl⟩
                          rw [← ef_6305] at hP hD
                          have hG := hG.trans (lt_eq ef_6305)
                          obtain ⟨hP, hD⟩ := wl2 (ws' := [(arI rM_fresher kM_fresher 8 f_6194), (arI rM_fresh kM_fresh 287 f_6305), (arI rM_read kM_read 90 f_6301), (oc7 oM iM_thrown rM_tape iM_taped iM_size x_6288 x_6289 x_6290 x_6291 x_6292 x_6293 x_6294 iM_trouble rM_letters x_6295 iM_hasCourt rM_r rM_fresh rM_told rM_read rM_st rM_undone rM_kept iM_undos iM_images rM_fresher x_6192 iM_scale iM_night rM_heardRow rM_cutRow iM_breaths iM_cutMany iM_allBreaths rM_trial rM_words iM_fewestBreaths iM_orderMany iM_orderSum iM_leastOrder rM_often iM_setMany iM_someOf iM_allOf iM_allWeight iM_enoughWeight iM_worthSum iM_firstRest iM_leastDrawn), (arI rM_tape kM_tape 900 fM_tape), (arI rM_letters kM_letters 8 f_6296)]) hP hD rfl
                          have pk_f_6305 : POk f_6305 f_6301 := POk.put pk_f_6301 ef_6305 (Or.inr (Or.inr (Or.inr (Or.inr (Or.inr (Or.inl (by have q9 := ti_cl (x := x_6304) vx_6304 (by omega); omega)))))))
                          have pl_f_6305 := pk_f_6305.lins
                          have nn9 : (f_6207 1).toNatClampNeg = x_6195.toNatClampNeg := by have q1 := ti_cl (x := x_6195) rfl (by omega); have q2 := ti_cl (x := f_6207 1) rfl (by omega); have q3 := ti_cl (x := z_6196) rfl (by omega); omega
                          have in9 : InOk f_6305 f_6301 (f_6305 1).toNatClampNeg (z_6196.toNatClampNeg + 1) p0.toInt := in_step hi3_n_6209 rfl ef_6301 (by have q1 := ti_cl (x := x_6195) rfl (by omega); have q2 := ti_cl (x := f_6207 1) rfl (by omega); have q3 := ti_cl (x := z_6196) rfl (by omega); have q9 := ti_cl (x := x_6300) vx_6300 (by omega); omega) ef_6305 (by have q1 := ti_cl (x := x_6195) rfl (by omega); have q2 := ti_cl (x := f_6207 1) rfl (by omega); have q3 := ti_cl (x := z_6196) rfl (by omega); have q9 := ti_cl (x := x_6304) vx_6304 (by omega); omega) (by omega) (by have q1 := ti_cl (x := x_6195) rfl (by omega); have q2 := ti_cl (x := f_6207 1) rfl (by omega); have q3 := ti_cl (x := z_6196) rfl (by omega); omega) (fun i9 h9 => by rw [nn9]; exact hi2_n_6236 (by omega) i9 (by have q1 := ti_cl (x := x_6195) rfl (by omega); have q2 := ti_cl (x := f_6207 1) rfl (by omega); have q3 := ti_cl (x := z_6196) rfl (by omega); have q4 := ti_cl (x := z_6232) rfl (by omega); omega)) (fun h9 => by have q0 := kc_0; omega) rfl
                          have o1_f_6305 : (f_6305 1).toInt = (f_6207 1).toInt := put_at ef_6305 (by have q9 := ti_cl (x := x_6304) vx_6304 (by omega); omega)
                          have o7_f_6305 : (f_6305 7).toInt = (f_6207 7).toInt := put_at ef_6305 (by have q9 := ti_cl (x := x_6304) vx_6304 (by omega); omega)
                          have o8_f_6305 : (f_6305 8).toInt = (f_6207 8).toInt := put_at ef_6305 (by have q9 := ti_cl (x := x_6304) vx_6304 (by omega); omega)
                          obtain ⟨x_6306, ex_6306⟩ : ∃ z : Int32, z = z_6196 + Int32.ofInt 1 := ⟨_, rfl⟩
                          have hG := hG.trans (lt_eq ex_6306)
                          have vx_6306 : x_6306.toInt = z_6196.toInt + 1 := by have q := ti_add (y := 1) ex_6306 rfl kc_1 (by omega) (by omega); omega
                          refine lv_iinc (v := x_6306) (lv' := [(3, .int x_6306), (6, .int x_6297), (5, .int x_6231), (4, .int z_6197), (2, .int x_6195), (0, .ref oM), (1, .int p0)]) hx hb dX7_innerLine_167 hl (k := 3) rfl ex_6306.symm (by decide) rfl (fun ls hl => ?_)
                          refine lv_aload_n hx hb dX7_innerLine_170 rfl (lv_at hl 5 rfl) ?_
                          refine va_get (D := (dC, dI)) (ci := 7) (v := .int x_6290) (C := RX7) (T := TX7) (N := 48) hx hb hts inX7 hown hK hP 3 rfl rfl 6 (by decide) (hts _ wd_383) (fun _ h9 => h9) rfl dX7_innerLine_171 ?_
                          refine lv_bipush (v := 44) hx hb dX7_innerLine_174 (by decide) ?_
                          refine lv_icmp_ne (tgt := 183) hx hb dX7_innerLine_176 (by decide) (fun c_6307 => ?_) (fun c_6307 => ?_)
                          · skip
                            have hG := hG.trans (if_neg c_6307)
                            have gc_6307 := ti_ne c_6307 rfl kc_44
                            clear gc_6307
                            refine lv_iconst (v := 0) hx hb dX7_innerLine_183 (by decide) ?_
                            refine lv_istore (lv' := [(4, .int 0), (3, .int x_6306), (6, .int x_6297), (5, .int x_6231), (2, .int x_6195), (0, .ref oM), (1, .int p0)]) hx hb dX7_innerLine_184 hl (by decide) rfl (fun ls hl => ?_)
                            refine lv_iload hx hb dX7_innerLine_186 (lv_at hl 0 rfl) ?_
                            refine lv_if_eq (tgt := 195) hx hb dX7_innerLine_188 (by decide) (fun _ => ?_) (fun c => absurd c (by decide))
                            refine lv_goto (tgt := 24) hx hb dX7_innerLine_195 (by decide) ?_
                            exact ih_n_6209 x_6306 0 x_6288 x_6289 x_6290 x_6291 x_6292 x_6293 x_6294 x_6295 f_6296 f_6305 f_6301 _ _ _ b_x_6289 b_x_6292 b_x_6295 (by first | omega | decide | assumption) (by first | omega | decide | assumption) (by assumption) (by rw [show x_6306.toNatClampNeg = z_6196.toNatClampNeg + 1 from (by have q1 := ti_cl (x := x_6306) vx_6306 (by omega); have q2 := ti_cl (x := z_6196) rfl (by omega); omega)]; exact in9) (by first | omega | decide | assumption) (fun h9 => by have q0 := kc_0; have q1 := kc_1; omega) e_x_6288_1 (by first | omega | decide | assumption) (fun h9 => by have q0 := kc_0; have q1 := kc_1; have q9 := e_x_6288_3 (by omega); omega) (by omega) hG (hP.sub [3, 4, 5, 1, 2, 0] rfl) (hD.sub [3, 4, 5, 1, 2, 0] (by decide) rfl) hS (lv_sub hl [0, 1, 4, 5, 6] rfl)
                          · skip
                            have hG := hG.trans (if_pos c_6307)
                            have gc_6307 := ti_eq c_6307 rfl kc_44
                            refine lv_iconst (v := 1) hx hb dX7_innerLine_179 (by decide) ?_
                            refine lv_goto (tgt := 184) hx hb dX7_innerLine_180 (by decide) ?_
                            refine lv_istore (lv' := [(4, .int 1), (3, .int x_6306), (6, .int x_6297), (5, .int x_6231), (2, .int x_6195), (0, .ref oM), (1, .int p0)]) hx hb dX7_innerLine_184 hl (by decide) rfl (fun ls hl => ?_)
                            refine lv_iload hx hb dX7_innerLine_186 (lv_at hl 0 rfl) ?_
                            refine lv_if_eq (tgt := 195) hx hb dX7_innerLine_188 (by decide) (fun c => absurd c (by decide)) (fun _ => ?_)
                            refine lv_aload_n hx hb dX7_innerLine_191 rfl (lv_at hl 5 rfl) ?_
                            have hFc := va_free (wc := [(oc7 oM iM_thrown rM_tape iM_taped iM_size x_6288 x_6289 x_6290 x_6291 x_6292 x_6293 x_6294 iM_trouble rM_letters x_6295 iM_hasCourt rM_r rM_fresh rM_told rM_read rM_st rM_undone rM_kept iM_undos iM_images rM_fresher x_6192 iM_scale iM_night rM_heardRow rM_cutRow iM_breaths iM_cutMany iM_allBreaths rM_trial rM_words iM_fewestBreaths iM_orderMany iM_orderSum iM_leastOrder rM_often iM_setMany iM_someOf iM_allOf iM_allWeight iM_enoughWeight iM_worthSum iM_firstRest iM_leastDrawn), (arI rM_tape kM_tape 900 fM_tape), (arI rM_letters kM_letters 8 f_6296)]) hD hS hA [3, 4, 5] rfl
                            refine va_callv (va_runV (As := []) (rest := []) ⟨hx, hb, hml, hown, hts⟩ (tX7_next l dC dI _ oM iM_thrown rM_tape fM_tape kM_tape iM_taped iM_size x_6288 x_6289 x_6290 x_6291 x_6292 x_6293 x_6294 iM_trouble rM_letters f_6296 kM_letters x_6295 iM_hasCourt rM_r rM_fresh rM_told rM_read rM_st rM_undone rM_kept iM_undos iM_images rM_fresher x_6192 iM_scale iM_night rM_heardRow rM_cutRow iM_breaths iM_cutMany iM_allBreaths rM_trial rM_words iM_fewestBreaths iM_orderMany iM_orderSum iM_leastOrder rM_often iM_setMany iM_someOf iM_allOf iM_allWeight iM_enoughWeight iM_worthSum iM_firstRest iM_leastDrawn (by first | omega | decide) (by first | omega | decide) (by first | exact b_x_6289 | omega | decide) (by first | exact b_x_6292 | omega | decide) (by first | exact b_x_6295 | omega | decide) (by first | omega | decide) (by first | omega | decide) (by first | omega | decide) (by first | omega | decide) (by first | omega | decide) (by first | omega | decide) (by first | assumption | exact (fun h9 => by have q0 := kc_0; have q1 := kc_1; omega))) (cwV 0 hts (wd_V wd_400 wd_401 wd_402 wd_5 (wd_c wd_403)) rfl rfl rfl (by decide +kernel) ⟨Nat.le_of_ble_eq_true rfl, Nat.le_of_ble_eq_true rfl⟩) ⟨Pw.fb, va_recv hK hP (ci := 7) (q0 := 3) rfl rfl, fun U hU hW => Pw.to (hP.sub [3, 4, 5] rfl) (hD.sub [3, 4, 5] (by decide) rfl) (hK.sub [3, 4] rfl) hE hS hFc hU hW⟩ rfl rfl hl.1 rfl (lv_room (Nat.le_of_ble_eq_true rfl)) dX7_innerLine_192 ⟨Nat.le_of_ble_eq_true rfl, Nat.le_of_ble_eq_true rfl⟩) hS (fun q _ h => hFc q h) hFc (fun u t H locs ht hvm hw hB hz1 hk1 hS => ?_)
                            obtain ⟨x_6310, x_6311, x_6312, x_6313, x_6314, f_6315, b_x_6311, b_x_6314, e_x_6310_0, e_x_6310_1, e_x_6310_2, e_x_6310_3, hB⟩ := hB
                            obtain ⟨hP, hD, hK⟩ := Bw.go (ws' := [(arI rM_fresher kM_fresher 8 f_6194), (arI rM_fresh kM_fresh 287 f_6305), (arI rM_read kM_read 90 f_6301), (oc7 oM iM_thrown rM_tape iM_taped iM_size x_6310 x_6311 x_6312 x_6313 x_6314 x_6293 x_6294 iM_trouble rM_letters x_6295 iM_hasCourt rM_r rM_fresh rM_told rM_read rM_st rM_undone rM_kept iM_undos iM_images rM_fresher x_6192 iM_scale iM_night rM_heardRow rM_cutRow iM_breaths iM_cutMany iM_allBreaths rM_trial rM_words iM_fewestBreaths iM_orderMany iM_orderSum iM_leastOrder rM_often iM_setMany iM_someOf iM_allOf iM_allWeight iM_enoughWeight iM_worthSum iM_firstRest iM_leastDrawn), (arI rM_tape kM_tape 900 fM_tape), (arI rM_letters kM_letters 8 f_6315)]) (tys' := [(kM_fresher, .int), (kM_fresh, .int), (kM_read, .int), (kM_tape, .int), (kM_letters, .int)]) hB rfl ht hvm hP hD hK [3, 4, 5] [0, 1, 2] rfl (by decide) (by decide) [0, 1, 2] hk1 hFc rfl rfl rfl
                            clear hz1 hk1 hvm ht hB
                            have hG := hG.trans (un6_eq e_x_6310_3)
                            clear e_x_6288_1
                            clear e_x_6288_3
                            refine lv_goto (tgt := 24) hx hb dX7_innerLine_195 (by decide) ?_
                            exact ih_n_6209 x_6306 1 x_6310 x_6311 x_6312 x_6313 x_6314 x_6293 x_6294 x_6295 f_6315 f_6305 f_6301 _ _ _ b_x_6311 b_x_6314 b_x_6295 (by first | omega | decide | assumption) (by first | omega | decide | assumption) (by assumption) (by rw [show x_6306.toNatClampNeg = z_6196.toNatClampNeg + 1 from (by have q1 := ti_cl (x := x_6306) vx_6306 (by omega); have q2 := ti_cl (x := z_6196) rfl (by omega); omega)]; exact in9) (by first | omega | decide | assumption) (fun h9 => by have q0 := kc_0; have q1 := kc_1; omega) e_x_6310_1 (by first | omega | decide | assumption) (fun h9 => by have q0 := kc_0; have q1 := kc_1; have q9 := e_x_6310_2 (by omega); omega) (by omega) hG (hP.sub [3, 4, 5, 1, 2, 0] rfl) (hD.sub [3, 4, 5, 1, 2, 0] (by decide) rfl) hS (lv_sub hl [0, 1, 4, 5, 6] rfl)
                        · skip
                          have hG := hG.trans (if_neg c_6298)
                          have gc_6298 := ti_ne c_6298 rfl kc_0
                          replace gc_6298 : (-1) * x_6295.toInt + 1 ≤ 0 := by omega
                          exact W.vret hx hb hr (fun t ht hW => ⟨⟨0, rfl, trivial, ⟨x_6288, x_6289, x_6290, x_6291, x_6292, x_6293, x_6294, x_6295, x_6192, f_6296, f_6207, f_6208, f_6194, b_x_6289, b_x_6292, b_x_6295, (by first | assumption | (have q0 := kc_0; have q1 := kc_1; omega)), e_x_6288_1, (by first | assumption | (have q0 := kc_0; have q1 := kc_1; omega)), (fun h9 => by have q0 := kc_0; have q1 := kc_1; omega), (by first | assumption | (have q0 := kc_0; have q1 := kc_1; omega)), hG, Bw.to (hP.sub [3, 4, 5, 1, 2, 0] rfl) (hD.sub [3, 4, 5, 1, 2, 0] (by decide) rfl) (hK.sub [3, 4, 1, 2, 0] rfl) ht hW⟩⟩, hS.F ht⟩) hS.2.2 dX7_innerLine_139
                    · skip
                      have hG := hG.trans (if_pos c_6261)
                      have gc_6261 := ti_eq c_6261 rfl kc_4
                      refine lv_aload_n hx hb dX7_innerLine_101 rfl (lv_at hl 5 rfl) ?_
                      refine lv_iconst (v := 5) hx hb dX7_innerLine_102 (by decide) ?_
                      refine lv_aload_n hx hb dX7_innerLine_103 rfl (lv_at hl 5 rfl) ?_
                      refine va_get (D := (dC, dI)) (ci := 7) (v := .int z_6198) (C := RX7) (T := TX7) (N := 48) hx hb hts inX7 hown hK hP 2 rfl rfl 4 (by decide) (hts _ wd_384) (fun _ h9 => h9) rfl dX7_innerLine_104 ?_
                      have hFc := va_free (wc := [(oc7 oM iM_thrown rM_tape iM_taped iM_size z_6198 z_6199 z_6200 z_6201 z_6202 z_6234 z_6235 iM_trouble rM_letters z_6233 iM_hasCourt rM_r rM_fresh rM_told rM_read rM_st rM_undone rM_kept iM_undos iM_images rM_fresher x_6192 iM_scale iM_night rM_heardRow rM_cutRow iM_breaths iM_cutMany iM_allBreaths rM_trial rM_words iM_fewestBreaths iM_orderMany iM_orderSum iM_leastOrder rM_often iM_setMany iM_someOf iM_allOf iM_allWeight iM_enoughWeight iM_worthSum iM_firstRest iM_leastDrawn)]) hD hS hA [2] rfl
                      refine va_callv (va_runV (As := [.int 5, .int z_6198]) (rest := []) ⟨hx, hb, hml, hown, hts⟩ (tX7_wrong l dC dI _ oM iM_thrown rM_tape iM_taped iM_size z_6198 z_6199 z_6200 z_6201 z_6202 z_6234 z_6235 iM_trouble rM_letters z_6233 iM_hasCourt rM_r rM_fresh rM_told rM_read rM_st rM_undone rM_kept iM_undos iM_images rM_fresher x_6192 iM_scale iM_night rM_heardRow rM_cutRow iM_breaths iM_cutMany iM_allBreaths rM_trial rM_words iM_fewestBreaths iM_orderMany iM_orderSum iM_leastOrder rM_often iM_setMany iM_someOf iM_allOf iM_allWeight iM_enoughWeight iM_worthSum iM_firstRest iM_leastDrawn 5 z_6198 (by first | omega | decide) (by first | omega | decide) (by first | exact b_z_6199 | omega | decide) (by first | exact b_z_6202 | omega | decide) (by first | exact b_z_6233 | omega | decide) (by first | omega | decide) (by first | omega | decide) (by first | omega | decide) (by first | omega | decide) (by first | omega | decide) (by first | omega | decide) (by first | assumption | exact (fun h9 => by have q0 := kc_0; have q1 := kc_1; omega))) (cwV 2 hts (wd_V wd_430 wd_431 wd_432 wd_5 (wd_c wd_433)) rfl rfl rfl (by decide +kernel) ⟨Nat.le_of_ble_eq_true rfl, Nat.le_of_ble_eq_true rfl⟩) ⟨Pw.fb, va_recv hK hP (ci := 7) (q0 := 2) rfl rfl, fun U hU hW => Pw.to (hP.sub [2] rfl) (hD.sub [2] (by decide) rfl) (hK.sub [] rfl) hE hS hFc hU hW⟩ rfl rfl hl.1 rfl (lv_room (Nat.le_of_ble_eq_true rfl)) dX7_innerLine_107 ⟨Nat.le_of_ble_eq_true rfl, Nat.le_of_ble_eq_true rfl⟩) hS (fun q _ h => hFc q h) hFc (fun u t H locs ht hvm hw hB hz1 hk1 hS => ?_)
                      obtain ⟨x_6316, x_6317, x_6318, b_x_6318, e_x_6316_0, e_x_6316_1, hB⟩ := hB
                      obtain ⟨hP, hD, hK⟩ := Bw.go (ws' := [(arI rM_tape kM_tape 900 fM_tape), (arI rM_fresher kM_fresher 8 f_6194), (arI rM_letters kM_letters 8 f_6206), (arI rM_fresh kM_fresh 287 f_6207), (arI rM_read kM_read 90 f_6208), (oc7 oM iM_thrown rM_tape iM_taped iM_size z_6198 z_6199 z_6200 z_6201 z_6202 x_6316 x_6317 iM_trouble rM_letters x_6318 iM_hasCourt rM_r rM_fresh rM_told rM_read rM_st rM_undone rM_kept iM_undos iM_images rM_fresher x_6192 iM_scale iM_night rM_heardRow rM_cutRow iM_breaths iM_cutMany iM_allBreaths rM_trial rM_words iM_fewestBreaths iM_orderMany iM_orderSum iM_leastOrder rM_often iM_setMany iM_someOf iM_allOf iM_allWeight iM_enoughWeight iM_worthSum iM_firstRest iM_leastDrawn)]) (tys' := [(kM_tape, .int), (kM_fresher, .int), (kM_letters, .int), (kM_fresh, .int), (kM_read, .int)]) hB rfl ht hvm hP hD hK [2] [0, 1, 3, 4, 5] rfl (by decide) (by decide) [0, 1, 2, 3, 4] hk1 hFc rfl rfl rfl
                      clear hz1 hk1 hvm ht hB
                      have hG := hG.trans (un3_eq e_x_6316_1)
                      refine lv_aload_n hx hb dX7_innerLine_110 rfl (lv_at hl 5 rfl) ?_
                      have hFc := va_free (wc := [(oc7 oM iM_thrown rM_tape iM_taped iM_size z_6198 z_6199 z_6200 z_6201 z_6202 x_6316 x_6317 iM_trouble rM_letters x_6318 iM_hasCourt rM_r rM_fresh rM_told rM_read rM_st rM_undone rM_kept iM_undos iM_images rM_fresher x_6192 iM_scale iM_night rM_heardRow rM_cutRow iM_breaths iM_cutMany iM_allBreaths rM_trial rM_words iM_fewestBreaths iM_orderMany iM_orderSum iM_leastOrder rM_often iM_setMany iM_someOf iM_allOf iM_allWeight iM_enoughWeight iM_worthSum iM_firstRest iM_leastDrawn), (arI rM_tape kM_tape 900 fM_tape), (arI rM_letters kM_letters 8 f_6206)]) hD hS hA [5, 0, 2] rfl
                      refine va_callv (va_runV (As := []) (rest := []) ⟨hx, hb, hml, hown, hts⟩ (tX7_pass l dC dI _ oM iM_thrown rM_tape fM_tape kM_tape iM_taped iM_size z_6198 z_6199 z_6200 z_6201 z_6202 x_6316 x_6317 iM_trouble rM_letters f_6206 kM_letters x_6318 iM_hasCourt rM_r rM_fresh rM_told rM_read rM_st rM_undone rM_kept iM_undos iM_images rM_fresher x_6192 iM_scale iM_night rM_heardRow rM_cutRow iM_breaths iM_cutMany iM_allBreaths rM_trial rM_words iM_fewestBreaths iM_orderMany iM_orderSum iM_leastOrder rM_often iM_setMany iM_someOf iM_allOf iM_allWeight iM_enoughWeight iM_worthSum iM_firstRest iM_leastDrawn (by first | omega | decide) (by first | omega | decide) (by first | exact b_z_6199 | omega | decide) (by first | exact b_z_6202 | omega | decide) (by first | exact b_x_6318 | omega | decide) (by first | omega | decide) (by first | omega | decide) (by first | omega | decide) (by first | omega | decide) (by first | omega | decide) (by first | omega | decide) (by first | assumption | exact (fun h9 => by have q0 := kc_0; have q1 := kc_1; omega))) (cwV 0 hts (wd_V wd_454 wd_455 wd_456 wd_5 (wd_c wd_457)) rfl rfl rfl (by decide +kernel) ⟨Nat.le_of_ble_eq_true rfl, Nat.le_of_ble_eq_true rfl⟩) ⟨Pw.fb, va_recv hK hP (ci := 7) (q0 := 5) rfl rfl, fun U hU hW => Pw.to (hP.sub [5, 0, 2] rfl) (hD.sub [5, 0, 2] (by decide) rfl) (hK.sub [0, 2] rfl) hE hS hFc hU hW⟩ rfl rfl hl.1 rfl (lv_room (Nat.le_of_ble_eq_true rfl)) dX7_innerLine_111 ⟨Nat.le_of_ble_eq_true rfl, Nat.le_of_ble_eq_true rfl⟩) hS (fun q _ h => hFc q h) hFc (fun u t H locs ht hvm hw hB hz1 hk1 hS => ?_)
                      obtain ⟨x_6319, x_6320, x_6321, x_6322, x_6323, f_6324, b_x_6320, b_x_6323, e_x_6319_0, e_x_6319_1, e_x_6319_2, e_x_6319_3, hB⟩ := hB
                      obtain ⟨hP, hD, hK⟩ := Bw.go (ws' := [(arI rM_fresher kM_fresher 8 f_6194), (arI rM_fresh kM_fresh 287 f_6207), (arI rM_read kM_read 90 f_6208), (oc7 oM iM_thrown rM_tape iM_taped iM_size x_6319 x_6320 x_6321 x_6322 x_6323 x_6316 x_6317 iM_trouble rM_letters x_6318 iM_hasCourt rM_r rM_fresh rM_told rM_read rM_st rM_undone rM_kept iM_undos iM_images rM_fresher x_6192 iM_scale iM_night rM_heardRow rM_cutRow iM_breaths iM_cutMany iM_allBreaths rM_trial rM_words iM_fewestBreaths iM_orderMany iM_orderSum iM_leastOrder rM_often iM_setMany iM_someOf iM_allOf iM_allWeight iM_enoughWeight iM_worthSum iM_firstRest iM_leastDrawn), (arI rM_tape kM_tape 900 fM_tape), (arI rM_letters kM_letters 8 f_6324)]) (tys' := [(kM_fresher, .int), (kM_fresh, .int), (kM_read, .int), (kM_tape, .int), (kM_letters, .int)]) hB rfl ht hvm hP hD hK [5, 0, 2] [1, 3, 4] rfl (by decide) (by decide) [1, 3, 4] hk1 hFc rfl rfl rfl
                      clear hz1 hk1 hvm ht hB
                      have hG := hG.trans (un6_eq e_x_6319_3)
                      clear hi6_n_6209
                      clear hi8_n_6209
                      refine lv_iload_n hx hb dX7_innerLine_114 rfl (lv_at hl 6 rfl) ?_
                      refine lv_iconst (v := 3) hx hb dX7_innerLine_115 (by decide) ?_
                      refine lv_icmp_ne (tgt := 129) hx hb dX7_innerLine_116 (by decide) (fun c_6325 => ?_) (fun c_6325 => ?_)
                      · skip
                        have hG := hG.trans (if_neg c_6325)
                        have gc_6325 := ti_ne c_6325 rfl kc_3
                        replace gc_6325 : p0.toInt + (-2) ≤ 0 := by omega
                        clear hic
                        refine lv_iconst (v := 0) hx hb dX7_innerLine_129 (by decide) ?_
                        refine lv_istore (lv' := [(6, .int 0), (5, .int x_6231), (4, .int z_6197), (3, .int z_6196), (2, .int x_6195), (0, .ref oM), (1, .int p0)]) hx hb dX7_innerLine_130 hl (by decide) rfl (fun ls hl => ?_)
                        refine lv_aload_n hx hb dX7_innerLine_132 rfl (lv_at hl 5 rfl) ?_
                        refine va_get (D := (dC, dI)) (ci := 7) (v := .int x_6318) (C := RX7) (T := TX7) (N := 48) hx hb hts inX7 hown hK hP 3 rfl rfl 13 (by decide) (hts _ wd_380) (fun _ h9 => h9) rfl dX7_innerLine_133 ?_
                        refine lv_if_eq (tgt := 140) hx hb dX7_innerLine_136 (by decide) (fun c_6326 => ?_) (fun c_6326 => ?_)
                        · skip
                          have hG := hG.trans (if_pos c_6326)
                          have gc_6326 := ti_eq c_6326 rfl kc_0
                          exfalso; clear hG; omega
                        · skip
                          have hG := hG.trans (if_neg c_6326)
                          have gc_6326 := ti_ne c_6326 rfl kc_0
                          replace gc_6326 : (-1) * x_6318.toInt + 1 ≤ 0 := by omega
                          exact W.vret hx hb hr (fun t ht hW => ⟨⟨0, rfl, trivial, ⟨x_6319, x_6320, x_6321, x_6322, x_6323, x_6316, x_6317, x_6318, x_6192, f_6324, f_6207, f_6208, f_6194, b_x_6320, b_x_6323, b_x_6318, (by first | assumption | (have q0 := kc_0; have q1 := kc_1; omega)), e_x_6319_1, (by first | assumption | (have q0 := kc_0; have q1 := kc_1; omega)), (fun h9 => by have q0 := kc_0; have q1 := kc_1; omega), (by first | assumption | (have q0 := kc_0; have q1 := kc_1; omega)), hG, Bw.to (hP.sub [3, 4, 5, 1, 2, 0] rfl) (hD.sub [3, 4, 5, 1, 2, 0] (by decide) rfl) (hK.sub [3, 4, 1, 2, 0] rfl) ht hW⟩⟩, hS.F ht⟩) hS.2.2 dX7_innerLine_139
                      · skip
                        have hG := hG.trans (if_pos c_6325)
                        have gc_6325 := ti_eq c_6325 rfl kc_3
                        have h_6327 := hic (by omega)
                        clear hic
                        refine lv_aload_n hx hb dX7_innerLine_119 rfl (lv_at hl 5 rfl) ?_
                        refine lv_iconst (v := 1) hx hb dX7_innerLine_120 (by decide) ?_
                        refine lv_bipush (v := 9) hx hb dX7_innerLine_121 (by decide) ?_
                        have hFc := va_free (wc := [(oc7 oM iM_thrown rM_tape iM_taped iM_size x_6319 x_6320 x_6321 x_6322 x_6323 x_6316 x_6317 iM_trouble rM_letters x_6318 iM_hasCourt rM_r rM_fresh rM_told rM_read rM_st rM_undone rM_kept iM_undos iM_images rM_fresher x_6192 iM_scale iM_night rM_heardRow rM_cutRow iM_breaths iM_cutMany iM_allBreaths rM_trial rM_words iM_fewestBreaths iM_orderMany iM_orderSum iM_leastOrder rM_often iM_setMany iM_someOf iM_allOf iM_allWeight iM_enoughWeight iM_worthSum iM_firstRest iM_leastDrawn), (arI rM_tape kM_tape 900 fM_tape), (arI rM_letters kM_letters 8 f_6324)]) hD hS hA [3, 4, 5] rfl
                        refine va_calli (va_runV (As := [.int 1, .int 9]) (rest := []) ⟨hx, hb, hml, hown, hts⟩ (tX7_number l dC dI _ oM iM_thrown rM_tape fM_tape kM_tape iM_taped iM_size x_6319 x_6320 x_6321 x_6322 x_6323 x_6316 x_6317 iM_trouble rM_letters f_6324 kM_letters x_6318 iM_hasCourt rM_r rM_fresh rM_told rM_read rM_st rM_undone rM_kept iM_undos iM_images rM_fresher x_6192 iM_scale iM_night rM_heardRow rM_cutRow iM_breaths iM_cutMany iM_allBreaths rM_trial rM_words iM_fewestBreaths iM_orderMany iM_orderSum iM_leastOrder rM_often iM_setMany iM_someOf iM_allOf iM_allWeight iM_enoughWeight iM_worthSum iM_firstRest iM_leastDrawn 1 9 (by first | omega | decide) (by first | omega | decide) (by first | exact b_x_6320 | omega | decide) (by first | exact b_x_6323 | omega | decide) (by first | exact b_x_6318 | omega | decide) (by first | omega | decide) (by first | omega | decide) (by first | omega | decide) (by first | omega | decide) (by first | omega | decide) (by first | omega | decide) (by first | assumption | exact (fun h9 => by have q0 := kc_0; have q1 := kc_1; omega)) (by first | omega | decide | assumption | (have q0 := kc_0; have q1 := kc_1; have q2 := kc_9; omega) | (intro h; exact absurd h (by decide)))) (cwV 2 hts (wd_V wd_446 wd_447 wd_448 wd_5 (wd_c wd_449)) rfl rfl rfl (by decide +kernel) ⟨Nat.le_of_ble_eq_true rfl, Nat.le_of_ble_eq_true rfl⟩) ⟨Pw.fb, va_recv hK hP (ci := 7) (q0 := 3) rfl rfl, fun U hU hW => Pw.to (hP.sub [3, 4, 5] rfl) (hD.sub [3, 4, 5] (by decide) rfl) (hK.sub [3, 4] rfl) hE hS hFc hU hW⟩ rfl rfl hl.1 rfl (lv_room (Nat.le_of_ble_eq_true rfl)) dX7_innerLine_123 ⟨Nat.le_of_ble_eq_true rfl, Nat.le_of_ble_eq_true rfl⟩) hS (fun q _ h => hFc q h) hFc (fun r u t H locs ht hvm hw hB hz1 hk1 hS => ?_)
                        have hru9 := hw.2
                        have hw := hw.1
                        obtain ⟨x_6328, x_6329, x_6330, x_6331, x_6332, x_6333, x_6334, x_6335, f_6336, b_x_6329, b_x_6332, b_x_6335, e_x_6328_0, e_x_6328_1, e_x_6328_2, e_x_6328_3, e_x_6328_4, hB⟩ := hB
                        obtain ⟨hP, hD, hK⟩ := Bw.go (ws' := [(arI rM_fresher kM_fresher 8 f_6194), (arI rM_fresh kM_fresh 287 f_6207), (arI rM_read kM_read 90 f_6208), (oc7 oM iM_thrown rM_tape iM_taped iM_size x_6328 x_6329 x_6330 x_6331 x_6332 x_6333 x_6334 iM_trouble rM_letters x_6335 iM_hasCourt rM_r rM_fresh rM_told rM_read rM_st rM_undone rM_kept iM_undos iM_images rM_fresher x_6192 iM_scale iM_night rM_heardRow rM_cutRow iM_breaths iM_cutMany iM_allBreaths rM_trial rM_words iM_fewestBreaths iM_orderMany iM_orderSum iM_leastOrder rM_often iM_setMany iM_someOf iM_allOf iM_allWeight iM_enoughWeight iM_worthSum iM_firstRest iM_leastDrawn), (arI rM_tape kM_tape 900 fM_tape), (arI rM_letters kM_letters 8 f_6336)]) (tys' := [(kM_fresher, .int), (kM_fresh, .int), (kM_read, .int), (kM_tape, .int), (kM_letters, .int)]) hB rfl ht hvm hP hD hK [3, 4, 5] [0, 1, 2] rfl (by decide) (by decide) [0, 1, 2] hk1 hFc rfl rfl rfl
                        clear hz1 hk1 hvm ht hB
                        rw [← hru9] at e_x_6328_4
                        obtain ⟨x_6337, rfl⟩ : ∃ z, z = r := ⟨_, rfl⟩
                        have hG := hG.trans (un10_eq e_x_6328_4)
                        have lx_6337 := hw.2
                        have kl_1 := kc_1
                        have kl_9 := kc_9
                        clear e_x_6319_1
                        clear e_x_6319_2
                        refine lv_goto (tgt := 130) hx hb dX7_innerLine_126 (by decide) ?_
                        refine lv_istore (lv' := [(6, .int x_6337), (5, .int x_6231), (4, .int z_6197), (3, .int z_6196), (2, .int x_6195), (0, .ref oM), (1, .int p0)]) hx hb dX7_innerLine_130 hl (by decide) rfl (fun ls hl => ?_)
                        refine lv_aload_n hx hb dX7_innerLine_132 rfl (lv_at hl 5 rfl) ?_
                        refine va_get (D := (dC, dI)) (ci := 7) (v := .int x_6335) (C := RX7) (T := TX7) (N := 48) hx hb hts inX7 hown hK hP 3 rfl rfl 13 (by decide) (hts _ wd_380) (fun _ h9 => h9) rfl dX7_innerLine_133 ?_
                        refine lv_if_eq (tgt := 140) hx hb dX7_innerLine_136 (by decide) (fun c_6338 => ?_) (fun c_6338 => ?_)
                        · skip
                          have hG := hG.trans (if_pos c_6338)
                          have gc_6338 := ti_eq c_6338 rfl kc_0
                          exfalso; clear hG; omega
                        · skip
                          have hG := hG.trans (if_neg c_6338)
                          have gc_6338 := ti_ne c_6338 rfl kc_0
                          replace gc_6338 : (-1) * x_6335.toInt + 1 ≤ 0 := by omega
                          exact W.vret hx hb hr (fun t ht hW => ⟨⟨0, rfl, trivial, ⟨x_6328, x_6329, x_6330, x_6331, x_6332, x_6333, x_6334, x_6335, x_6192, f_6336, f_6207, f_6208, f_6194, b_x_6329, b_x_6332, b_x_6335, (by first | assumption | (have q0 := kc_0; have q1 := kc_1; omega)), e_x_6328_1, (by first | assumption | (have q0 := kc_0; have q1 := kc_1; omega)), (fun h9 => by have q0 := kc_0; have q1 := kc_1; omega), (by first | assumption | (have q0 := kc_0; have q1 := kc_1; omega)), hG, Bw.to (hP.sub [3, 4, 5, 1, 2, 0] rfl) (hD.sub [3, 4, 5, 1, 2, 0] (by decide) rfl) (hK.sub [3, 4, 1, 2, 0] rfl) ht hW⟩⟩, hS.F ht⟩) hS.2.2 dX7_innerLine_139
                · skip
                  have hG := hG.trans (if_neg c_6237)
                  have gc_6237 := ti_nle c_6237 rfl rfl
                  refine lv_aload_n hx hb dX7_innerLine_51 rfl (lv_at hl 5 rfl) ?_
                  refine va_get (D := (dC, dI)) (ci := 7) (v := .int z_6233) (C := RX7) (T := TX7) (N := 48) hx hb hts inX7 hown hK hP 2 rfl rfl 13 (by decide) (hts _ wd_380) (fun _ h9 => h9) rfl dX7_innerLine_52 ?_
                  refine lv_if_ne (tgt := 83) hx hb dX7_innerLine_55 (by decide) (fun c_6339 => ?_) (fun c_6339 => ?_)
                  · skip
                    have hG := hG.trans (if_neg c_6339)
                    have gc_6339 := ti_ne c_6339 rfl kc_0
                    replace gc_6339 : (-1) * z_6233.toInt + 1 ≤ 0 := by omega
                    obtain ⟨x_6340, ex_6340⟩ : ∃ z : Int32, z = z_6232 + Int32.ofInt 1 := ⟨_, rfl⟩
                    have hG := hG.trans (lt_eq ex_6340)
                    have vx_6340 : x_6340.toInt = z_6232.toInt + 1 := by have q := ti_add (y := 1) ex_6340 rfl kc_1 (by omega) (by omega); omega
                    refine lv_iinc (v := x_6340) (lv' := [(6, .int x_6340), (5, .int x_6231), (4, .int z_6197), (3, .int z_6196), (2, .int x_6195), (0, .ref oM), (1, .int p0)]) hx hb dX7_innerLine_83 hl (k := 0) rfl ex_6340.symm (by decide) rfl (fun ls hl => ?_)
                    refine lv_goto (tgt := 45) hx hb dX7_innerLine_86 (by decide) ?_
                    exact ih_n_6236 x_6340 z_6233 z_6234 z_6235 _ _ _ b_z_6233 (by first | omega | decide | assumption) (by first | omega | decide | assumption) (show NeI _ _ _ _ _ from fun h9 i9 hi9 => by by_cases e9 : i9 = z_6232.toNatClampNeg; (rw [e9]; omega); exact hi2_n_6236 (by omega) i9 (by have q1 := ti_cl (x := x_6340) vx_6340 (by omega); have q2 := ti_cl (x := z_6232) rfl (by omega); omega)) (by omega) hG (hP.sub [0, 1, 2, 3, 4, 5] rfl) (hD.sub [0, 1, 2, 3, 4, 5] (by decide) rfl) hS (lv_sub hl [0, 1, 2, 3, 4, 5, 6] rfl)
                  · skip
                    have hG := hG.trans (if_pos c_6339)
                    have gc_6339 := ti_eq c_6339 rfl kc_0
                    have h_6341 := e_x_6228_1 (by omega)
                    clear e_x_6228_1
                    have h_6342 := lx_6231.2.1 (by omega)
                    refine lv_aload_n hx hb dX7_innerLine_58 rfl (lv_at hl 5 rfl) ?_
                    refine va_get (D := (dC, dI)) (ci := 7) (v := .ref rM_read) (C := RX7) (T := TX7) (N := 48) hx hb hts inX7 hown hK hP 2 rfl rfl 18 (by decide) (hts _ wd_158) (fun _ h9 => h9) rfl dX7_innerLine_59 ?_
                    refine lv_iconst (v := 4) hx hb dX7_innerLine_62 (by decide) ?_
                    refine lv_iload_n hx hb dX7_innerLine_63 rfl (lv_at hl 4 rfl) ?_
                    refine lv_imul hx hb dX7_innerLine_64 ?_
                    refine lv_topi (fun x_6343 ex_6343 => ?_)
                    have hG := hG.trans (lt_eq ex_6343)
                    have vx_6343 : x_6343.toInt = 4 * x_6195.toInt := by have q := ti_mul ex_6343 kc_4 rfl (by omega) (by omega); omega
                    refine lv_iload hx hb dX7_innerLine_65 (lv_at hl 0 rfl) ?_
                    refine lv_iadd hx hb dX7_innerLine_67 ?_
                    refine lv_topi (fun x_6344 ex_6344 => ?_)
                    have hG := hG.trans (lt_eq ex_6344)
                    have vx_6344 : x_6344.toInt = 4 * x_6195.toInt + z_6232.toInt := by have q := ti_add ex_6344 vx_6343 rfl (by omega) (by omega); omega
                    refine va_iald hx hb hK hP 5 4 rfl rfl (ti_in vx_6344 (by omega) (by omega)) dX7_innerLine_68 ?_
                    refine lv_topi (fun x_6345 ex_6345 => ?_)
                    have hG := hG.trans (lt_eq ex_6345)
                    have kx_6345 : (f_6208 x_6344.toNatClampNeg).toInt = x_6345.toInt := by rw [ex_6345]
                    have cx_6345 : (f_6208 (4 * x_6195.toNatClampNeg + z_6232.toNatClampNeg)).toInt = x_6345.toInt := by rw [show 4 * x_6195.toNatClampNeg + z_6232.toNatClampNeg = x_6344.toNatClampNeg from by have q9 := ti_cl (x := x_6344) vx_6344 (by omega); have q_x_6195 := ti_cl (x := x_6195) rfl (by omega); have q_z_6232 := ti_cl (x := z_6232) rfl (by omega); omega]; exact kx_6345
                    refine lv_iload hx hb dX7_innerLine_69 (lv_at hl 1 rfl) ?_
                    refine lv_icmp_ne (tgt := 83) hx hb dX7_innerLine_71 (by decide) (fun c_6346 => ?_) (fun c_6346 => ?_)
                    · skip
                      have hG := hG.trans (if_neg c_6346)
                      have gc_6346 := ti_ne c_6346 rfl rfl
                      obtain ⟨x_6347, ex_6347⟩ : ∃ z : Int32, z = z_6232 + Int32.ofInt 1 := ⟨_, rfl⟩
                      have hG := hG.trans (lt_eq ex_6347)
                      have vx_6347 : x_6347.toInt = z_6232.toInt + 1 := by have q := ti_add (y := 1) ex_6347 rfl kc_1 (by omega) (by omega); omega
                      refine lv_iinc (v := x_6347) (lv' := [(6, .int x_6347), (5, .int x_6231), (4, .int z_6197), (3, .int z_6196), (2, .int x_6195), (0, .ref oM), (1, .int p0)]) hx hb dX7_innerLine_83 hl (k := 0) rfl ex_6347.symm (by decide) rfl (fun ls hl => ?_)
                      refine lv_goto (tgt := 45) hx hb dX7_innerLine_86 (by decide) ?_
                      exact ih_n_6236 x_6347 z_6233 z_6234 z_6235 _ _ _ b_z_6233 (by first | omega | decide | assumption) (by first | omega | decide | assumption) (show NeI _ _ _ _ _ from fun h9 i9 hi9 => by by_cases e9 : i9 = z_6232.toNatClampNeg; (rw [e9]; omega); exact hi2_n_6236 (by omega) i9 (by have q1 := ti_cl (x := x_6347) vx_6347 (by omega); have q2 := ti_cl (x := z_6232) rfl (by omega); omega)) (by omega) hG (hP.sub [0, 1, 2, 3, 4, 5] rfl) (hD.sub [0, 1, 2, 3, 4, 5] (by decide) rfl) hS (lv_sub hl [0, 1, 2, 3, 4, 5, 6] rfl)
                    · skip
                      have hG := hG.trans (if_pos c_6346)
                      have gc_6346 := ti_eq c_6346 rfl rfl
                      refine lv_aload_n hx hb dX7_innerLine_74 rfl (lv_at hl 5 rfl) ?_
                      refine lv_iconst (v := 3) hx hb dX7_innerLine_75 (by decide) ?_
                      refine lv_aload_n hx hb dX7_innerLine_76 rfl (lv_at hl 5 rfl) ?_
                      refine va_get (D := (dC, dI)) (ci := 7) (v := .int z_6198) (C := RX7) (T := TX7) (N := 48) hx hb hts inX7 hown hK hP 2 rfl rfl 4 (by decide) (hts _ wd_384) (fun _ h9 => h9) rfl dX7_innerLine_77 ?_
                      have hFc := va_free (wc := [(oc7 oM iM_thrown rM_tape iM_taped iM_size z_6198 z_6199 z_6200 z_6201 z_6202 z_6234 z_6235 iM_trouble rM_letters z_6233 iM_hasCourt rM_r rM_fresh rM_told rM_read rM_st rM_undone rM_kept iM_undos iM_images rM_fresher x_6192 iM_scale iM_night rM_heardRow rM_cutRow iM_breaths iM_cutMany iM_allBreaths rM_trial rM_words iM_fewestBreaths iM_orderMany iM_orderSum iM_leastOrder rM_often iM_setMany iM_someOf iM_allOf iM_allWeight iM_enoughWeight iM_worthSum iM_firstRest iM_leastDrawn)]) hD hS hA [2] rfl
                      refine va_callv (va_runV (As := [.int 3, .int z_6198]) (rest := []) ⟨hx, hb, hml, hown, hts⟩ (tX7_wrong l dC dI _ oM iM_thrown rM_tape iM_taped iM_size z_6198 z_6199 z_6200 z_6201 z_6202 z_6234 z_6235 iM_trouble rM_letters z_6233 iM_hasCourt rM_r rM_fresh rM_told rM_read rM_st rM_undone rM_kept iM_undos iM_images rM_fresher x_6192 iM_scale iM_night rM_heardRow rM_cutRow iM_breaths iM_cutMany iM_allBreaths rM_trial rM_words iM_fewestBreaths iM_orderMany iM_orderSum iM_leastOrder rM_often iM_setMany iM_someOf iM_allOf iM_allWeight iM_enoughWeight iM_worthSum iM_firstRest iM_leastDrawn 3 z_6198 (by first | omega | decide) (by first | omega | decide) (by first | exact b_z_6199 | omega | decide) (by first | exact b_z_6202 | omega | decide) (by first | exact b_z_6233 | omega | decide) (by first | omega | decide) (by first | omega | decide) (by first | omega | decide) (by first | omega | decide) (by first | omega | decide) (by first | omega | decide) (by first | assumption | exact (fun h9 => by have q0 := kc_0; have q1 := kc_1; omega))) (cwV 2 hts (wd_V wd_430 wd_431 wd_432 wd_5 (wd_c wd_433)) rfl rfl rfl (by decide +kernel) ⟨Nat.le_of_ble_eq_true rfl, Nat.le_of_ble_eq_true rfl⟩) ⟨Pw.fb, va_recv hK hP (ci := 7) (q0 := 2) rfl rfl, fun U hU hW => Pw.to (hP.sub [2] rfl) (hD.sub [2] (by decide) rfl) (hK.sub [] rfl) hE hS hFc hU hW⟩ rfl rfl hl.1 rfl (lv_room (Nat.le_of_ble_eq_true rfl)) dX7_innerLine_80 ⟨Nat.le_of_ble_eq_true rfl, Nat.le_of_ble_eq_true rfl⟩) hS (fun q _ h => hFc q h) hFc (fun u t H locs ht hvm hw hB hz1 hk1 hS => ?_)
                      obtain ⟨x_6348, x_6349, x_6350, b_x_6350, e_x_6348_0, e_x_6348_1, hB⟩ := hB
                      obtain ⟨hP, hD, hK⟩ := Bw.go (ws' := [(arI rM_tape kM_tape 900 fM_tape), (arI rM_fresher kM_fresher 8 f_6194), (arI rM_letters kM_letters 8 f_6206), (arI rM_fresh kM_fresh 287 f_6207), (arI rM_read kM_read 90 f_6208), (oc7 oM iM_thrown rM_tape iM_taped iM_size z_6198 z_6199 z_6200 z_6201 z_6202 x_6348 x_6349 iM_trouble rM_letters x_6350 iM_hasCourt rM_r rM_fresh rM_told rM_read rM_st rM_undone rM_kept iM_undos iM_images rM_fresher x_6192 iM_scale iM_night rM_heardRow rM_cutRow iM_breaths iM_cutMany iM_allBreaths rM_trial rM_words iM_fewestBreaths iM_orderMany iM_orderSum iM_leastOrder rM_often iM_setMany iM_someOf iM_allOf iM_allWeight iM_enoughWeight iM_worthSum iM_firstRest iM_leastDrawn)]) (tys' := [(kM_tape, .int), (kM_fresher, .int), (kM_letters, .int), (kM_fresh, .int), (kM_read, .int)]) hB rfl ht hvm hP hD hK [2] [0, 1, 3, 4, 5] rfl (by decide) (by decide) [0, 1, 2, 3, 4] hk1 hFc rfl rfl rfl
                      clear hz1 hk1 hvm ht hB
                      have hG := hG.trans (un3_eq e_x_6348_1)
                      obtain ⟨x_6351, ex_6351⟩ : ∃ z : Int32, z = z_6232 + Int32.ofInt 1 := ⟨_, rfl⟩
                      have hG := hG.trans (lt_eq ex_6351)
                      have vx_6351 : x_6351.toInt = z_6232.toInt + 1 := by have q := ti_add (y := 1) ex_6351 rfl kc_1 (by omega) (by omega); omega
                      refine lv_iinc (v := x_6351) (lv' := [(6, .int x_6351), (5, .int x_6231), (4, .int z_6197), (3, .int z_6196), (2, .int x_6195), (0, .ref oM), (1, .int p0)]) hx hb dX7_innerLine_83 hl (k := 0) rfl ex_6351.symm (by decide) rfl (fun ls hl => ?_)
                      refine lv_goto (tgt := 45) hx hb dX7_innerLine_86 (by decide) ?_
                      exact ih_n_6236 x_6351 x_6350 x_6348 x_6349 _ _ _ b_x_6350 (by first | omega | decide | assumption) (by first | omega | decide | assumption) (show NeI _ _ _ _ _ from fun h9 i9 hi9 => by by_cases e9 : i9 = z_6232.toNatClampNeg; (rw [e9]; omega); exact hi2_n_6236 (by omega) i9 (by have q1 := ti_cl (x := x_6351) vx_6351 (by omega); have q2 := ti_cl (x := z_6232) rfl (by omega); omega)) (by omega) hG (hP.sub [0, 1, 5, 2, 3, 4] rfl) (hD.sub [0, 1, 5, 2, 3, 4] (by decide) rfl) hS (lv_sub hl [0, 1, 2, 3, 4, 5, 6] rfl)
            exact key_n_6236 (((z_6196.toInt - (0 : Int32).toInt).toNat) + 1) 0 x_6230 x_6228 x_6229 _ _ _ b_x_6230 (by first | omega | decide | assumption | (have q0 := kc_0; have q1 := kc_1; omega)) (by first | omega | decide | assumption | (have q0 := kc_0; have q1 := kc_1; omega)) (show NeI _ _ _ _ _ from fun _ i9 hi9 => absurd hi9 (Nat.not_lt_zero i9)) (by omega) hG hP hD hS hl
    exact key_n_6209 (((4 - (0 : Int32).toInt).toNat) + 1) 0 1 x_6184 x_6185 x_6186 x_6187 x_6188 x_6189 x_6190 x_6191 f_6193 fM_fresh fM_read _ _ _ b_x_6185 b_x_6188 b_x_6191 (by first | omega | decide | assumption | (have q0 := kc_0; have q1 := kc_1; omega)) (by first | omega | decide | assumption | (have q0 := kc_0; have q1 := kc_1; omega)) (by assumption) in_zero ⟨rfl, rfl, rfl⟩ (fun h9 => by have q0 := kc_0; have q1 := kc_1; omega) e_x_6184_1 (by first | omega | decide | assumption | (have q0 := kc_0; have q1 := kc_1; omega)) (fun h9 => by have q0 := kc_0; have q1 := kc_1; have q9 := e_x_6184_3 (by omega); omega) (by omega) hG hP hD hS hl
  · skip
    have hG := hG.trans (if_neg c_6182)
    have gc_6182 := ti_ne c_6182 rfl kc_0
    replace gc_6182 : (-1) * iM_failed.toInt + 1 ≤ 0 := by omega
    clear hil
    clear hic
    exact W.vret hx hb hr (fun t ht hW => ⟨⟨0, rfl, trivial, ⟨iM_at, iM_end, iM_token, iM_whole, iM_nameSize, iM_fault, iM_place, iM_failed, iM_fresherSize, fM_letters, fM_fresh, fM_read, fM_fresher, (by omega), (by omega), (by omega), (by first | assumption | (have q0 := kc_0; have q1 := kc_1; omega)), r_T, (by first | assumption | (have q0 := kc_0; have q1 := kc_1; omega)), (fun h9 => by have q0 := kc_0; have q1 := kc_1; omega), (by first | assumption | (have q0 := kc_0; have q1 := kc_1; omega)), hG, Bw.to (hP.sub [0, 1, 2, 3, 4, 5] rfl) (hD.sub [0, 1, 2, 3, 4, 5] (by decide) rfl) (hK.sub [0, 1, 2, 3, 4] rfl) ht hW⟩⟩, hS.F ht⟩) hS.2.2 dX7_innerLine_7
