set_option maxHeartbeats 4000000 in
set_option maxRecDepth 100000 in
theorem tX7_trySlips (l : Launch) (dC : Nat → ClassId) (dI : Nat → Nat → Nat) (sz : Nat) (oM : Nat) (iM_thrown : Int32) (rM_tape : Nat) (iM_taped : Int32) (iM_size : Int32) (iM_at : Int32) (iM_end : Int32) (iM_token : Int32) (iM_whole : Int32) (iM_nameSize : Int32) (iM_fault : Int32) (iM_place : Int32) (iM_trouble : Int32) (rM_letters : Nat) (iM_failed : Int32) (iM_hasCourt : Int32) (rM_r : Nat) (fM_r : Nat → Int32) (kM_r : ClassId) (rM_fresh : Nat) (rM_told : Nat) (fM_told : Nat → Int32) (kM_told : ClassId) (rM_read : Nat) (rM_st : Nat) (fM_st : Nat → Int32) (kM_st : ClassId) (rM_undone : Nat) (rM_kept : Nat) (iM_undos : Int32) (iM_images : Int32) (rM_fresher : Nat) (iM_fresherSize : Int32) (iM_scale : Int32) (iM_night : Int32) (rM_heardRow : Nat) (rM_cutRow : Nat) (iM_breaths : Int32) (iM_cutMany : Int32) (iM_allBreaths : Int32) (rM_trial : Nat) (fM_trial : Nat → Int32) (kM_trial : ClassId) (rM_words : Nat) (iM_fewestBreaths : Int32) (iM_orderMany : Int32) (iM_orderSum : Int32) (iM_leastOrder : Int32) (rM_often : Nat) (iM_setMany : Int32) (iM_someOf : Int32) (iM_allOf : Int32) (iM_allWeight : Int64) (iM_enoughWeight : Int64) (iM_worthSum : Int64) (iM_firstRest : Int32) (iM_leastDrawn : Int32) (p0 : Int32) (b_iM_taped : 0 ≤ iM_taped.toInt ∧ iM_taped.toInt ≤ 900) (b_iM_size : 0 ≤ iM_size.toInt ∧ iM_size.toInt ≤ 900) (b_iM_end : 0 ≤ iM_end.toInt ∧ iM_end.toInt ≤ 900) (b_iM_failed : 0 ≤ iM_failed.toInt ∧ iM_failed.toInt ≤ 1) (b_iM_hasCourt : 0 ≤ iM_hasCourt.toInt ∧ iM_hasCourt.toInt ≤ 1) (b_iM_undos : 0 ≤ iM_undos.toInt ∧ iM_undos.toInt ≤ 16) (b_iM_images : 0 ≤ iM_images.toInt ∧ iM_images.toInt ≤ 3) (b_iM_scale : 1 ≤ iM_scale.toInt ∧ iM_scale.toInt ≤ 1296) (b_iM_breaths : 0 ≤ iM_breaths.toInt ∧ iM_breaths.toInt ≤ 399) (b_iM_cutMany : 0 ≤ iM_cutMany.toInt ∧ iM_cutMany.toInt ≤ 399) (r_R : ROk fM_r) (r_C : iM_hasCourt.toInt ≤ 0 ∨ (1 ≤ (fM_r 1).toInt ∧ 0 ≤ (fM_r 6).toInt ∧ (fM_r 6).toInt < (fM_r 1).toInt)) (r_st : RowOk fM_r fM_st) (r_told : RowOk fM_r fM_told) (r_wst : WorOk fM_st) (hth : 0 ≤ (fM_r 6).toInt ∧ (fM_r 6).toInt < (fM_r 1).toInt) : Met l yX7_trySlips (Cond.code yX7_trySlips cX7_trySlips 6 none :: wG) ({ frames := 22, cells := 0, slots := 0, locals := 585 }) (va_Pc [.ref oM, .int p0] (Pw dC dI sz [(oc7 oM iM_thrown rM_tape iM_taped iM_size iM_at iM_end iM_token iM_whole iM_nameSize iM_fault iM_place iM_trouble rM_letters iM_failed iM_hasCourt rM_r rM_fresh rM_told rM_read rM_st rM_undone rM_kept iM_undos iM_images rM_fresher iM_fresherSize iM_scale iM_night rM_heardRow rM_cutRow iM_breaths iM_cutMany iM_allBreaths rM_trial rM_words iM_fewestBreaths iM_orderMany iM_orderSum iM_leastOrder rM_often iM_setMany iM_someOf iM_allOf iM_allWeight iM_enoughWeight iM_worthSum iM_firstRest iM_leastDrawn), (arI rM_r kM_r 287 fM_r), (arI rM_told kM_told 90 fM_told), (arI rM_st kM_st 90 fM_st), (arI rM_trial kM_trial 90 fM_trial)] [(kM_r, .int), (kM_told, .int), (kM_st, .int), (kM_trial, .int)])) (va_Qv (fun (_ : Nat) => True) (fun (_ : Nat) (t : State) => ∃ (niM_allWeight : Int64) (niM_enoughWeight : Int64) (niM_worthSum : Int64) (nfM_trial : Nat → Int32), (1 ≤ niM_allWeight.toInt ∧ niM_allWeight.toInt ≤ 1600000000) ∧ (PX7_trySlips fM_r fM_told fM_st iM_scale iM_night fM_trial p0 = (niM_allWeight, niM_enoughWeight, niM_worthSum, nfM_trial)) ∧ Bw dC dI (va_A [(oc7 oM iM_thrown rM_tape iM_taped iM_size iM_at iM_end iM_token iM_whole iM_nameSize iM_fault iM_place iM_trouble rM_letters iM_failed iM_hasCourt rM_r rM_fresh rM_told rM_read rM_st rM_undone rM_kept iM_undos iM_images rM_fresher iM_fresherSize iM_scale iM_night rM_heardRow rM_cutRow iM_breaths iM_cutMany iM_allBreaths rM_trial rM_words iM_fewestBreaths iM_orderMany iM_orderSum iM_leastOrder rM_often iM_setMany iM_someOf iM_allOf iM_allWeight iM_enoughWeight iM_worthSum iM_firstRest iM_leastDrawn), (arI rM_r kM_r 287 fM_r), (arI rM_told kM_told 90 fM_told), (arI rM_st kM_st 90 fM_st), (arI rM_trial kM_trial 90 fM_trial)] sz) [(oc7 oM iM_thrown rM_tape iM_taped iM_size iM_at iM_end iM_token iM_whole iM_nameSize iM_fault iM_place iM_trouble rM_letters iM_failed iM_hasCourt rM_r rM_fresh rM_told rM_read rM_st rM_undone rM_kept iM_undos iM_images rM_fresher iM_fresherSize iM_scale iM_night rM_heardRow rM_cutRow iM_breaths iM_cutMany iM_allBreaths rM_trial rM_words iM_fewestBreaths iM_orderMany iM_orderSum iM_leastOrder rM_often iM_setMany iM_someOf iM_allOf niM_allWeight niM_enoughWeight niM_worthSum iM_firstRest iM_leastDrawn), (arI rM_r kM_r 287 fM_r), (arI rM_told kM_told 90 fM_told), (arI rM_st kM_st 90 fM_st), (arI rM_trial kM_trial 90 nfM_trial)] [(kM_r, .int), (kM_told, .int), (kM_st, .int), (kM_trial, .int)] t) (va_A [(oc7 oM iM_thrown rM_tape iM_taped iM_size iM_at iM_end iM_token iM_whole iM_nameSize iM_fault iM_place iM_trouble rM_letters iM_failed iM_hasCourt rM_r rM_fresh rM_told rM_read rM_st rM_undone rM_kept iM_undos iM_images rM_fresher iM_fresherSize iM_scale iM_night rM_heardRow rM_cutRow iM_breaths iM_cutMany iM_allBreaths rM_trial rM_words iM_fewestBreaths iM_orderMany iM_orderSum iM_leastOrder rM_often iM_setMany iM_someOf iM_allOf iM_allWeight iM_enoughWeight iM_worthSum iM_firstRest iM_leastDrawn), (arI rM_r kM_r 287 fM_r), (arI rM_told kM_told 90 fM_told), (arI rM_st kM_st 90 fM_st), (arI rM_trial kM_trial 90 fM_trial)] sz)) 0 0 (va_A [(oc7 oM iM_thrown rM_tape iM_taped iM_size iM_at iM_end iM_token iM_whole iM_nameSize iM_fault iM_place iM_trouble rM_letters iM_failed iM_hasCourt rM_r rM_fresh rM_told rM_read rM_st rM_undone rM_kept iM_undos iM_images rM_fresher iM_fresherSize iM_scale iM_night rM_heardRow rM_cutRow iM_breaths iM_cutMany iM_allBreaths rM_trial rM_words iM_fewestBreaths iM_orderMany iM_orderSum iM_leastOrder rM_often iM_setMany iM_someOf iM_allOf iM_allWeight iM_enoughWeight iM_worthSum iM_firstRest iM_leastDrawn), (arI rM_r kM_r 287 fM_r), (arI rM_told kM_told 90 fM_told), (arI rM_st kM_st 90 fM_st), (arI rM_trial kM_trial 90 fM_trial)] sz) := by
  refine Met.ofW (cc := cX7_trySlips) (maxL := 6) (ret := none) (by decide) rfl ?_
  intro p e s m args below meth c s₁ B hml hv
  obtain ⟨rfl, hsz, hP, hK, hD0, hE⟩ := hv
  have hx := B.exec
  have hb := B.bytes
  have hr := B.returns
  have hts : ∀ w ∈ wG, w.before ([.ref oM, .int p0] : List Value).toArray s = true := fun w h => atoms_spec (ws := Cond.code yX7_trySlips cX7_trySlips 6 none :: wG) B.pre w (List.mem_cons_of_mem _ h)
  have hown : s.vm.findClass RX7 = some m.cls := findClass_of_methodNamed B.named
  have hlocks := B.notSynchronized
  subst hsz
  have hD := hD0.self (sz := s.heap.size)
  generalize hAe : va_A [(oc7 oM iM_thrown rM_tape iM_taped iM_size iM_at iM_end iM_token iM_whole iM_nameSize iM_fault iM_place iM_trouble rM_letters iM_failed iM_hasCourt rM_r rM_fresh rM_told rM_read rM_st rM_undone rM_kept iM_undos iM_images rM_fresher iM_fresherSize iM_scale iM_night rM_heardRow rM_cutRow iM_breaths iM_cutMany iM_allBreaths rM_trial rM_words iM_fewestBreaths iM_orderMany iM_orderSum iM_leastOrder rM_often iM_setMany iM_someOf iM_allOf iM_allWeight iM_enoughWeight iM_worthSum iM_firstRest iM_leastDrawn), (arI rM_r kM_r 287 fM_r), (arI rM_told kM_told 90 fM_told), (arI rM_st kM_st 90 fM_st), (arI rM_trial kM_trial 90 fM_trial)] s.heap.size = A at hD hE ⊢
  have hA : ∀ q : Nat, s.heap.size ≤ q → A q := fun q h => by rw [← hAe]; exact Or.inr h
  have hS : va_S A s.heap s.heap [] := va_S.rf
  have hl := lv_entry ([.ref oM, .int p0]) (n := 6) (Nat.le_of_ble_eq_true rfl)
  rw [lg_entry_eq]
  generalize (lg_sl ([.ref oM, .int p0]) ++ List.replicate (6 - (lg_sl ([.ref oM, .int p0])).length) Slot.unset).toArray = ls at hl ⊢
  have hl : lv_has ls 6 [(0, .ref oM), (1, .int p0)] := hl
  have hG := PX7_trySlips_eq fM_r fM_told fM_st iM_scale iM_night fM_trial p0
  have s_slips := r_R.slips
  have s_nodes := r_R.nodes
  have s_uns := r_R.uns
  have L0 : (0 : Int64).toInt = 0 := by decide
  have L1 : (1 : Int64).toInt = 1 := by decide
  have K1 := kc_1
  have K0 := kc_0
  have K100 := kc_100
  have P0 : (100 : Int) ^ ((0 : Int32).toNatClampNeg) = 1 := by decide
  have pw9 := two_in (n := (fM_r 3).toInt.toNat) (by omega)
  refine lv_aload_n hx hb dX7_trySlips_0 rfl (lv_at hl 0 rfl) ?_
  refine lv_lconst (v := 0) hx hb dX7_trySlips_1 (by decide) ?_
  refine va_put (D := (dC, dI)) (ci := 7) (v := .long 0) (ty := .long) (C := RX7) (T := TX7) (N := 48) hx hb hts inX7 tyX7 tyX7_ok nmX7 hown hK hP hD hS 0 rfl rfl 43 (by decide) (hts _ wd_1272) (fun _ h9 => h9) rfl (by decide +kernel) rfl rfl (Nat.le_of_ble_eq_true rfl) dX7_trySlips_2 (fun H locs hP hD hS => ?_)
  obtain ⟨hP, hD⟩ := wl2 (ws' := [(oc7 oM iM_thrown rM_tape iM_taped iM_size iM_at iM_end iM_token iM_whole iM_nameSize iM_fault iM_place iM_trouble rM_letters iM_failed iM_hasCourt rM_r rM_fresh rM_told rM_read rM_st rM_undone rM_kept iM_undos iM_images rM_fresher iM_fresherSize iM_scale iM_night rM_heardRow rM_cutRow iM_breaths iM_cutMany iM_allBreaths rM_trial rM_words iM_fewestBreaths iM_orderMany iM_orderSum iM_leastOrder rM_often iM_setMany iM_someOf iM_allOf 0 iM_enoughWeight iM_worthSum iM_firstRest iM_leastDrawn), (arI rM_r kM_r 287 fM_r), (arI rM_told kM_told 90 fM_told), (arI rM_st kM_st 90 fM_st), (arI rM_trial kM_trial 90 fM_trial)]) hP hD rfl
  refine lv_aload_n hx hb dX7_trySlips_5 rfl (lv_at hl 0 rfl) ?_
  refine lv_lconst (v := 0) hx hb dX7_trySlips_6 (by decide) ?_
  refine va_put (D := (dC, dI)) (ci := 7) (v := .long 0) (ty := .long) (C := RX7) (T := TX7) (N := 48) hx hb hts inX7 tyX7 tyX7_ok nmX7 hown hK hP hD hS 0 rfl rfl 44 (by decide) (hts _ wd_1271) (fun _ h9 => h9) rfl (by decide +kernel) rfl rfl (Nat.le_of_ble_eq_true rfl) dX7_trySlips_7 (fun H locs hP hD hS => ?_)
  obtain ⟨hP, hD⟩ := wl2 (ws' := [(oc7 oM iM_thrown rM_tape iM_taped iM_size iM_at iM_end iM_token iM_whole iM_nameSize iM_fault iM_place iM_trouble rM_letters iM_failed iM_hasCourt rM_r rM_fresh rM_told rM_read rM_st rM_undone rM_kept iM_undos iM_images rM_fresher iM_fresherSize iM_scale iM_night rM_heardRow rM_cutRow iM_breaths iM_cutMany iM_allBreaths rM_trial rM_words iM_fewestBreaths iM_orderMany iM_orderSum iM_leastOrder rM_often iM_setMany iM_someOf iM_allOf 0 0 iM_worthSum iM_firstRest iM_leastDrawn), (arI rM_r kM_r 287 fM_r), (arI rM_told kM_told 90 fM_told), (arI rM_st kM_st 90 fM_st), (arI rM_trial kM_trial 90 fM_trial)]) hP hD rfl
  refine lv_aload_n hx hb dX7_trySlips_10 rfl (lv_at hl 0 rfl) ?_
  refine lv_lconst (v := 0) hx hb dX7_trySlips_11 (by decide) ?_
  refine va_put (D := (dC, dI)) (ci := 7) (v := .long 0) (ty := .long) (C := RX7) (T := TX7) (N := 48) hx hb hts inX7 tyX7 tyX7_ok nmX7 hown hK hP hD hS 0 rfl rfl 45 (by decide) (hts _ wd_1277) (fun _ h9 => h9) rfl (by decide +kernel) rfl rfl (Nat.le_of_ble_eq_true rfl) dX7_trySlips_12 (fun H locs hP hD hS => ?_)
  obtain ⟨hP, hD⟩ := wl2 (ws' := [(oc7 oM iM_thrown rM_tape iM_taped iM_size iM_at iM_end iM_token iM_whole iM_nameSize iM_fault iM_place iM_trouble rM_letters iM_failed iM_hasCourt rM_r rM_fresh rM_told rM_read rM_st rM_undone rM_kept iM_undos iM_images rM_fresher iM_fresherSize iM_scale iM_night rM_heardRow rM_cutRow iM_breaths iM_cutMany iM_allBreaths rM_trial rM_words iM_fewestBreaths iM_orderMany iM_orderSum iM_leastOrder rM_often iM_setMany iM_someOf iM_allOf 0 0 0 iM_firstRest iM_leastDrawn), (arI rM_r kM_r 287 fM_r), (arI rM_told kM_told 90 fM_told), (arI rM_st kM_st 90 fM_st), (arI rM_trial kM_trial 90 fM_trial)]) hP hD rfl
  refine lv_iconst (v := 0) hx hb dX7_trySlips_15 (by decide) ?_
  refine lv_istore_n (lv' := [(2, .int 0), (0, .ref oM), (1, .int p0)]) hx hb dX7_trySlips_16 rfl hl (by decide) rfl (fun ls hl => ?_)
  have hl := lv_sub hl (l' := [(2, .int 0), (0, .ref oM), (1, .int p0)]) [0, 1, 2] rfl
  have key_n_4453 : ∀ (n_4453 : Nat) (z_4448 : Int32) (z_4449 : Int64) (z_4450 : Int64) (z_4451 : Int64) (f_4452 : Nat → Int32) (H : Heap) (locs : List Loc) (ls : Array Slot), (0 ≤ z_4448.toInt ∧ z_4448.toInt ≤ (2 : Int) ^ (fM_r 3).toInt.toNat) → (0 ≤ z_4449.toInt ∧ z_4449.toInt ≤ 100000000 * z_4448.toInt) → ((fM_r 0).toInt < 100 ∧ 1 ≤ z_4448.toInt → 1 ≤ z_4449.toInt) → ((fM_r 0).toInt = 100 ∧ (2 : Int) ^ (fM_r 3).toInt.toNat ≤ z_4448.toInt → 1 ≤ z_4449.toInt) → ((2 : Int) ^ (fM_r 3).toInt.toNat - z_4448.toInt).toNat < n_4453 → (PX7_trySlips fM_r fM_told fM_st iM_scale iM_night fM_trial p0 = HX7_trySlips_0 fM_r fM_told fM_st iM_scale iM_night p0 n_4453 z_4448 z_4449 z_4450 z_4451 f_4452) → va_P (dC, dI) vwCl [(oc7 oM iM_thrown rM_tape iM_taped iM_size iM_at iM_end iM_token iM_whole iM_nameSize iM_fault iM_place iM_trouble rM_letters iM_failed iM_hasCourt rM_r rM_fresh rM_told rM_read rM_st rM_undone rM_kept iM_undos iM_images rM_fresher iM_fresherSize iM_scale iM_night rM_heardRow rM_cutRow iM_breaths iM_cutMany iM_allBreaths rM_trial rM_words iM_fewestBreaths iM_orderMany iM_orderSum iM_leastOrder rM_often iM_setMany iM_someOf iM_allOf z_4449 z_4450 z_4451 iM_firstRest iM_leastDrawn), (arI rM_r kM_r 287 fM_r), (arI rM_told kM_told 90 fM_told), (arI rM_st kM_st 90 fM_st), (arI rM_trial kM_trial 90 f_4452)] H → va_D A [(oc7 oM iM_thrown rM_tape iM_taped iM_size iM_at iM_end iM_token iM_whole iM_nameSize iM_fault iM_place iM_trouble rM_letters iM_failed iM_hasCourt rM_r rM_fresh rM_told rM_read rM_st rM_undone rM_kept iM_undos iM_images rM_fresher iM_fresherSize iM_scale iM_night rM_heardRow rM_cutRow iM_breaths iM_cutMany iM_allBreaths rM_trial rM_words iM_fewestBreaths iM_orderMany iM_orderSum iM_leastOrder rM_often iM_setMany iM_someOf iM_allOf z_4449 z_4450 z_4451 iM_firstRest iM_leastDrawn), (arI rM_r kM_r 287 fM_r), (arI rM_told kM_told 90 fM_told), (arI rM_st kM_st 90 fM_st), (arI rM_trial kM_trial 90 f_4452)] → va_S A s.heap H locs → lv_has ls 6 [(2, .int z_4448), (0, .ref oM), (1, .int p0)] → W p l e (headSpec (Cond.code yX7_trySlips cX7_trySlips 6 none :: wG) ({ frames := 22, cells := 0, slots := 0, locals := 585 })).room s m ([.ref oM, .int p0] : List Value).toArray below meth c H locs 0 0 (MQ below (va_Qv (fun (_ : Nat) => True) (fun (_ : Nat) (t : State) => ∃ (niM_allWeight : Int64) (niM_enoughWeight : Int64) (niM_worthSum : Int64) (nfM_trial : Nat → Int32), (1 ≤ niM_allWeight.toInt ∧ niM_allWeight.toInt ≤ 1600000000) ∧ (PX7_trySlips fM_r fM_told fM_st iM_scale iM_night fM_trial p0 = (niM_allWeight, niM_enoughWeight, niM_worthSum, nfM_trial)) ∧ Bw dC dI A [(oc7 oM iM_thrown rM_tape iM_taped iM_size iM_at iM_end iM_token iM_whole iM_nameSize iM_fault iM_place iM_trouble rM_letters iM_failed iM_hasCourt rM_r rM_fresh rM_told rM_read rM_st rM_undone rM_kept iM_undos iM_images rM_fresher iM_fresherSize iM_scale iM_night rM_heardRow rM_cutRow iM_breaths iM_cutMany iM_allBreaths rM_trial rM_words iM_fewestBreaths iM_orderMany iM_orderSum iM_leastOrder rM_often iM_setMany iM_someOf iM_allOf niM_allWeight niM_enoughWeight niM_worthSum iM_firstRest iM_leastDrawn), (arI rM_r kM_r 287 fM_r), (arI rM_told kM_told 90 fM_told), (arI rM_st kM_st 90 fM_st), (arI rM_trial kM_trial 90 nfM_trial)] [(kM_r, .int), (kM_told, .int), (kM_st, .int), (kM_trial, .int)] t) A) ([.ref oM, .int p0] : List Value).toArray s 0 0 A) (F0 m 17 ls []) := by
    intro n_4453
    induction n_4453 with
    | zero => intro z_4448 z_4449 z_4450 z_4451 f_4452 H locs ls hi0_n_4453 hi1_n_4453 hi2_n_4453 hi3_n_4453 hm; exact absurd hm (by omega)
    | succ n_4453 ih_n_4453 =>
      intro z_4448 z_4449 z_4450 z_4451 f_4452 H locs ls hi0_n_4453 hi1_n_4453 hi2_n_4453 hi3_n_4453 hm hG hP hD hS hl
      have hG := hG.trans (HX7_trySlips_0_eq _ _ _ _ _ _ _ _ _ _ _ _)
      refine lv_iload_n hx hb dX7_trySlips_17 rfl (lv_at hl 0 rfl) ?_
      refine lv_iconst (v := 1) hx hb dX7_trySlips_18 (by decide) ?_
      refine lv_aload_n hx hb dX7_trySlips_19 rfl (lv_at hl 1 rfl) ?_
      refine va_get (D := (dC, dI)) (ci := 7) (v := .ref rM_r) (C := RX7) (T := TX7) (N := 48) hx hb hts inX7 hown hK hP 0 rfl rfl 15 (by decide) (hts _ wd_155) (fun _ h9 => h9) rfl dX7_trySlips_20 ?_
      refine lv_iconst (v := 3) hx hb dX7_trySlips_23 (by decide) ?_
      refine va_iald hx hb hK hP 1 0 rfl rfl (by unfold vp_in; decide) dX7_trySlips_24 ?_
      refine lv_topi (fun x_4454 ex_4454 => ?_)
      have hG := hG.trans (lt_eq ex_4454)
      have cx_4454 : (fM_r 3).toInt = x_4454.toInt := congrArg Int32.toInt (show fM_r 3 = x_4454 from ex_4454.symm)
      have sx_4454 := r_R.uns
      refine lv_ishl hx hb dX7_trySlips_25 ?_
      refine lv_topi (fun x_4455 ex_4455 => ?_)
      have hG := hG.trans (lt_eq ex_4455)
      have sv_x_4455 : x_4455.toInt = (2 : Int) ^ (fM_r 3).toInt.toNat := by rw [shl_val ex_4455 (by omega) (by omega), ← cx_4454]
      have qx_4455 := ti_shl ex_4455 rfl (by omega) (by omega)
      refine lv_icmp_ge (tgt := 157) hx hb dX7_trySlips_26 (by decide) (fun c_4456 => ?_) (fun c_4456 => ?_)
      · skip
        have hG := hG.trans (if_pos c_4456)
        have gc_4456 := ti_le c_4456 rfl rfl
        exact W.vret hx hb hr (fun t ht hW => ⟨⟨0, rfl, trivial, ⟨z_4449, z_4450, z_4451, f_4452, (by first | omega | decide | assumption), hG, Bw.to (hP.sub [0, 1, 2, 3, 4] rfl) (hD.sub [0, 1, 2, 3, 4] (by decide) rfl) (hK.sub [0, 1, 2, 3] rfl) ht hW⟩⟩, hS.F ht⟩) hS.2.2 dX7_trySlips_157
      · skip
        have hG := hG.trans (if_neg c_4456)
        have gc_4456 := ti_nle c_4456 rfl rfl
        refine lv_lconst (v := 1) hx hb dX7_trySlips_29 (by decide) ?_
        refine lv_lstore_n (lv' := [(3, .long 1), (2, .int z_4448), (0, .ref oM), (1, .int p0)]) hx hb dX7_trySlips_30 rfl hl (by decide) rfl (fun ls hl => ?_)
        refine lv_iconst (v := 0) hx hb dX7_trySlips_31 (by decide) ?_
        refine lv_istore (lv' := [(5, .int 0), (3, .long 1), (2, .int z_4448), (0, .ref oM), (1, .int p0)]) hx hb dX7_trySlips_32 hl (by decide) rfl (fun ls hl => ?_)
        have hl := lv_sub hl (l' := [(5, .int 0), (3, .long 1), (2, .int z_4448), (0, .ref oM), (1, .int p0)]) [0, 1, 2, 3, 4] rfl
        have key_n_4459 : ∀ (n_4459 : Nat) (z_4457 : Int32) (z_4458 : Int64) (H : Heap) (locs : List Loc) (ls : Array Slot), (0 ≤ z_4457.toInt ∧ z_4457.toInt ≤ (fM_r 3).toInt) → (0 ≤ z_4458.toInt ∧ z_4458.toInt ≤ (100 : Int) ^ z_4457.toNatClampNeg) → (z_4448.toInt = 0 ∧ (fM_r 0).toInt < 100 → 1 ≤ z_4458.toInt) → (z_4448.toInt + 1 = (2 : Int) ^ (fM_r 3).toInt.toNat ∧ (fM_r 0).toInt = 100 → 1 ≤ z_4458.toInt) → ((fM_r 3).toInt - z_4457.toInt).toNat < n_4459 → (PX7_trySlips fM_r fM_told fM_st iM_scale iM_night fM_trial p0 = HX7_trySlips_1 fM_r fM_told fM_st iM_scale iM_night p0 z_4448 z_4449 z_4450 z_4451 f_4452 (fun (z_4448 : Int32) (z_4449 : Int64) (z_4450 : Int64) (z_4451 : Int64) (f_4452 : Nat → Int32) => HX7_trySlips_0 fM_r fM_told fM_st iM_scale iM_night p0 n_4453 z_4448 z_4449 z_4450 z_4451 f_4452) n_4459 z_4457 z_4458) → va_P (dC, dI) vwCl [(oc7 oM iM_thrown rM_tape iM_taped iM_size iM_at iM_end iM_token iM_whole iM_nameSize iM_fault iM_place iM_trouble rM_letters iM_failed iM_hasCourt rM_r rM_fresh rM_told rM_read rM_st rM_undone rM_kept iM_undos iM_images rM_fresher iM_fresherSize iM_scale iM_night rM_heardRow rM_cutRow iM_breaths iM_cutMany iM_allBreaths rM_trial rM_words iM_fewestBreaths iM_orderMany iM_orderSum iM_leastOrder rM_often iM_setMany iM_someOf iM_allOf z_4449 z_4450 z_4451 iM_firstRest iM_leastDrawn), (arI rM_r kM_r 287 fM_r), (arI rM_told kM_told 90 fM_told), (arI rM_st kM_st 90 fM_st), (arI rM_trial kM_trial 90 f_4452)] H → va_D A [(oc7 oM iM_thrown rM_tape iM_taped iM_size iM_at iM_end iM_token iM_whole iM_nameSize iM_fault iM_place iM_trouble rM_letters iM_failed iM_hasCourt rM_r rM_fresh rM_told rM_read rM_st rM_undone rM_kept iM_undos iM_images rM_fresher iM_fresherSize iM_scale iM_night rM_heardRow rM_cutRow iM_breaths iM_cutMany iM_allBreaths rM_trial rM_words iM_fewestBreaths iM_orderMany iM_orderSum iM_leastOrder rM_often iM_setMany iM_someOf iM_allOf z_4449 z_4450 z_4451 iM_firstRest iM_leastDrawn), (arI rM_r kM_r 287 fM_r), (arI rM_told kM_told 90 fM_told), (arI rM_st kM_st 90 fM_st), (arI rM_trial kM_trial 90 f_4452)] → va_S A s.heap H locs → lv_has ls 6 [(5, .int z_4457), (3, .long z_4458), (2, .int z_4448), (0, .ref oM), (1, .int p0)] → W p l e (headSpec (Cond.code yX7_trySlips cX7_trySlips 6 none :: wG) ({ frames := 22, cells := 0, slots := 0, locals := 585 })).room s m ([.ref oM, .int p0] : List Value).toArray below meth c H locs 0 0 (MQ below (va_Qv (fun (_ : Nat) => True) (fun (_ : Nat) (t : State) => ∃ (niM_allWeight : Int64) (niM_enoughWeight : Int64) (niM_worthSum : Int64) (nfM_trial : Nat → Int32), (1 ≤ niM_allWeight.toInt ∧ niM_allWeight.toInt ≤ 1600000000) ∧ (PX7_trySlips fM_r fM_told fM_st iM_scale iM_night fM_trial p0 = (niM_allWeight, niM_enoughWeight, niM_worthSum, nfM_trial)) ∧ Bw dC dI A [(oc7 oM iM_thrown rM_tape iM_taped iM_size iM_at iM_end iM_token iM_whole iM_nameSize iM_fault iM_place iM_trouble rM_letters iM_failed iM_hasCourt rM_r rM_fresh rM_told rM_read rM_st rM_undone rM_kept iM_undos iM_images rM_fresher iM_fresherSize iM_scale iM_night rM_heardRow rM_cutRow iM_breaths iM_cutMany iM_allBreaths rM_trial rM_words iM_fewestBreaths iM_orderMany iM_orderSum iM_leastOrder rM_often iM_setMany iM_someOf iM_allOf niM_allWeight niM_enoughWeight niM_worthSum iM_firstRest iM_leastDrawn), (arI rM_r kM_r 287 fM_r), (arI rM_told kM_told 90 fM_told), (arI rM_st kM_st 90 fM_st), (arI rM_trial kM_trial 90 nfM_trial)] [(kM_r, .int), (kM_told, .int), (kM_st, .int), (kM_trial, .int)] t) A) ([.ref oM, .int p0] : List Value).toArray s 0 0 A) (F0 m 34 ls []) := by
          intro n_4459
          induction n_4459 with
          | zero => intro z_4457 z_4458 H locs ls hi0_n_4459 hi1_n_4459 hi2_n_4459 hi3_n_4459 hm; exact absurd hm (by omega)
          | succ n_4459 ih_n_4459 =>
            intro z_4457 z_4458 H locs ls hi0_n_4459 hi1_n_4459 hi2_n_4459 hi3_n_4459 hm hG hP hD hS hl
            have hG := hG.trans (HX7_trySlips_1_eq _ _ _ _ _ _ _ _ _ _ _ _ _ _ _)
            refine lv_iload hx hb dX7_trySlips_34 (lv_at hl 0 rfl) ?_
            refine lv_aload_n hx hb dX7_trySlips_36 rfl (lv_at hl 3 rfl) ?_
            refine va_get (D := (dC, dI)) (ci := 7) (v := .ref rM_r) (C := RX7) (T := TX7) (N := 48) hx hb hts inX7 hown hK hP 0 rfl rfl 15 (by decide) (hts _ wd_155) (fun _ h9 => h9) rfl dX7_trySlips_37 ?_
            refine lv_iconst (v := 3) hx hb dX7_trySlips_40 (by decide) ?_
            refine va_iald hx hb hK hP 1 0 rfl rfl (by unfold vp_in; decide) dX7_trySlips_41 ?_
            refine lv_topi (fun x_4460 ex_4460 => ?_)
            have hG := hG.trans (lt_eq ex_4460)
            have cx_4460 : (fM_r 3).toInt = x_4460.toInt := congrArg Int32.toInt (show fM_r 3 = x_4460 from ex_4460.symm)
            have sx_4460 := r_R.uns
            refine lv_icmp_ge (tgt := 83) hx hb dX7_trySlips_42 (by decide) (fun c_4461 => ?_) (fun c_4461 => ?_)
            · skip
              have hG := hG.trans (if_pos c_4461)
              have gc_4461 := ti_le c_4461 rfl rfl
              refine lv_aload_n hx hb dX7_trySlips_83 rfl (lv_at hl 3 rfl) ?_
              refine lv_aload_n hx hb dX7_trySlips_84 rfl (lv_at hl 3 rfl) ?_
              refine va_get (D := (dC, dI)) (ci := 7) (v := .ref rM_st) (C := RX7) (T := TX7) (N := 48) hx hb hts inX7 hown hK hP 0 rfl rfl 19 (by decide) (hts _ wd_159) (fun _ h9 => h9) rfl dX7_trySlips_85 ?_
              refine lv_iload_n hx hb dX7_trySlips_88 rfl (lv_at hl 2 rfl) ?_
              have hFc := va_free (wc := [(oc7 oM iM_thrown rM_tape iM_taped iM_size iM_at iM_end iM_token iM_whole iM_nameSize iM_fault iM_place iM_trouble rM_letters iM_failed iM_hasCourt rM_r rM_fresh rM_told rM_read rM_st rM_undone rM_kept iM_undos iM_images rM_fresher iM_fresherSize iM_scale iM_night rM_heardRow rM_cutRow iM_breaths iM_cutMany iM_allBreaths rM_trial rM_words iM_fewestBreaths iM_orderMany iM_orderSum iM_leastOrder rM_often iM_setMany iM_someOf iM_allOf z_4449 z_4450 z_4451 iM_firstRest iM_leastDrawn), (arI rM_r kM_r 287 fM_r), (arI rM_trial kM_trial 90 f_4452), (arI rM_st kM_st 90 fM_st)]) hD hS hA [0, 1, 4, 3] rfl
              refine va_callv (va_runV (As := [.ref rM_st, .int z_4448]) (rest := []) ⟨hx, hb, hml, hown, hts⟩ (tX7_slipBy l dC dI _ oM iM_thrown rM_tape iM_taped iM_size iM_at iM_end iM_token iM_whole iM_nameSize iM_fault iM_place iM_trouble rM_letters iM_failed iM_hasCourt rM_r fM_r kM_r rM_fresh rM_told rM_read rM_st rM_undone rM_kept iM_undos iM_images rM_fresher iM_fresherSize iM_scale iM_night rM_heardRow rM_cutRow iM_breaths iM_cutMany iM_allBreaths rM_trial f_4452 kM_trial rM_words iM_fewestBreaths iM_orderMany iM_orderSum iM_leastOrder rM_often iM_setMany iM_someOf iM_allOf z_4449 z_4450 z_4451 iM_firstRest iM_leastDrawn rM_st fM_st kM_st z_4448 (by first | omega | decide) (by first | omega | decide) (by first | omega | decide) (by first | omega | decide) (by first | omega | decide) (by first | omega | decide) (by first | omega | decide) (by first | omega | decide) (by first | omega | decide) (by first | omega | decide) (by assumption) (by assumption) (by assumption)) (cwV 2 hts (wd_V wd_1192 wd_1193 wd_1194 wd_5 (wd_c wd_1195)) rfl rfl rfl (by decide +kernel) ⟨Nat.le_of_ble_eq_true rfl, Nat.le_of_ble_eq_true rfl⟩) ⟨Pw.fb, va_recv hK hP (ci := 7) (q0 := 0) rfl rfl, fun U hU hW => Pw.to (hP.sub [0, 1, 4, 3] rfl) (hD.sub [0, 1, 4, 3] (by decide) rfl) (hK.sub [0, 3, 2] rfl) hE hS hFc hU hW⟩ rfl rfl hl.1 rfl (lv_room (Nat.le_of_ble_eq_true rfl)) dX7_trySlips_89 ⟨Nat.le_of_ble_eq_true rfl, Nat.le_of_ble_eq_true rfl⟩) hS (fun q _ h => hFc q h) hFc (fun u t H locs ht hvm hw hB hz1 hk1 hS => ?_)
              obtain ⟨f_4462, e_f_4462_0, e_f_4462_1, hB⟩ := hB
              obtain ⟨hP, hD, hK⟩ := Bw.go (ws' := [(arI rM_told kM_told 90 fM_told), (oc7 oM iM_thrown rM_tape iM_taped iM_size iM_at iM_end iM_token iM_whole iM_nameSize iM_fault iM_place iM_trouble rM_letters iM_failed iM_hasCourt rM_r rM_fresh rM_told rM_read rM_st rM_undone rM_kept iM_undos iM_images rM_fresher iM_fresherSize iM_scale iM_night rM_heardRow rM_cutRow iM_breaths iM_cutMany iM_allBreaths rM_trial rM_words iM_fewestBreaths iM_orderMany iM_orderSum iM_leastOrder rM_often iM_setMany iM_someOf iM_allOf z_4449 z_4450 z_4451 iM_firstRest iM_leastDrawn), (arI rM_r kM_r 287 fM_r), (arI rM_trial kM_trial 90 f_4462), (arI rM_st kM_st 90 fM_st)]) (tys' := [(kM_told, .int), (kM_r, .int), (kM_trial, .int), (kM_st, .int)]) hB rfl ht hvm hP hD hK [0, 1, 4, 3] [2] rfl (by decide) (by decide) [1] hk1 hFc rfl rfl rfl
              clear hz1 hk1 hvm ht hB
              have hG := hG.trans (lt_eq e_f_4462_1.symm)
              refine lv_aload_n hx hb dX7_trySlips_92 rfl (lv_at hl 3 rfl) ?_
              refine lv_aload_n hx hb dX7_trySlips_93 rfl (lv_at hl 3 rfl) ?_
              refine va_get (D := (dC, dI)) (ci := 7) (v := .ref rM_trial) (C := RX7) (T := TX7) (N := 48) hx hb hts inX7 hown hK hP 1 rfl rfl 33 (by decide) (hts _ wd_167) (fun _ h9 => h9) rfl dX7_trySlips_94 ?_
              have hFc := va_free (wc := [(oc7 oM iM_thrown rM_tape iM_taped iM_size iM_at iM_end iM_token iM_whole iM_nameSize iM_fault iM_place iM_trouble rM_letters iM_failed iM_hasCourt rM_r rM_fresh rM_told rM_read rM_st rM_undone rM_kept iM_undos iM_images rM_fresher iM_fresherSize iM_scale iM_night rM_heardRow rM_cutRow iM_breaths iM_cutMany iM_allBreaths rM_trial rM_words iM_fewestBreaths iM_orderMany iM_orderSum iM_leastOrder rM_often iM_setMany iM_someOf iM_allOf z_4449 z_4450 z_4451 iM_firstRest iM_leastDrawn), (arI rM_r kM_r 287 fM_r), (arI rM_told kM_told 90 fM_told), (arI rM_trial kM_trial 90 f_4462)]) hD hS hA [1, 2, 0, 3] rfl
              refine va_calli (va_runV (As := [.ref rM_trial]) (rest := []) ⟨hx, hb, hml, hown, hts⟩ (tX7_throneBy l dC dI _ oM iM_thrown rM_tape iM_taped iM_size iM_at iM_end iM_token iM_whole iM_nameSize iM_fault iM_place iM_trouble rM_letters iM_failed iM_hasCourt rM_r fM_r kM_r rM_fresh rM_told fM_told kM_told rM_read rM_st rM_undone rM_kept iM_undos iM_images rM_fresher iM_fresherSize iM_scale iM_night rM_heardRow rM_cutRow iM_breaths iM_cutMany iM_allBreaths rM_trial rM_words iM_fewestBreaths iM_orderMany iM_orderSum iM_leastOrder rM_often iM_setMany iM_someOf iM_allOf z_4449 z_4450 z_4451 iM_firstRest iM_leastDrawn rM_trial f_4462 kM_trial (by first | omega | decide) (by first | omega | decide) (by first | omega | decide) (by first | omega | decide) (by first | omega | decide) (by first | omega | decide) (by first | omega | decide) (by first | omega | decide) (by first | omega | decide) (by first | omega | decide) (by assumption) (by assumption) (by assumption) (by assumption) (by first | omega | decide | assumption | (have q0 := kc_0; have q1 := kc_1; omega) | (intro h; exact absurd h (by decide)))) (cwV 1 hts (wd_V wd_979 wd_980 wd_981 wd_5 (wd_c wd_982)) rfl rfl rfl (by decide +kernel) ⟨Nat.le_of_ble_eq_true rfl, Nat.le_of_ble_eq_true rfl⟩) ⟨Pw.fb, va_recv hK hP (ci := 7) (q0 := 1) rfl rfl, fun U hU hW => Pw.to (hP.sub [1, 2, 0, 3] rfl) (hD.sub [1, 2, 0, 3] (by decide) rfl) (hK.sub [1, 0, 2] rfl) hE hS hFc hU hW⟩ rfl rfl hl.1 rfl (lv_room (Nat.le_of_ble_eq_true rfl)) dX7_trySlips_97 ⟨Nat.le_of_ble_eq_true rfl, Nat.le_of_ble_eq_true rfl⟩) hS (fun q _ h => hFc q h) hFc (fun r u t H locs ht hvm hw hB hz1 hk1 hS => ?_)
              have hru9 := hw.2
              have hw := hw.1
              obtain ⟨hP, hD, hK⟩ := Bw.go (ws' := [(arI rM_st kM_st 90 fM_st), (oc7 oM iM_thrown rM_tape iM_taped iM_size iM_at iM_end iM_token iM_whole iM_nameSize iM_fault iM_place iM_trouble rM_letters iM_failed iM_hasCourt rM_r rM_fresh rM_told rM_read rM_st rM_undone rM_kept iM_undos iM_images rM_fresher iM_fresherSize iM_scale iM_night rM_heardRow rM_cutRow iM_breaths iM_cutMany iM_allBreaths rM_trial rM_words iM_fewestBreaths iM_orderMany iM_orderSum iM_leastOrder rM_often iM_setMany iM_someOf iM_allOf z_4449 z_4450 z_4451 iM_firstRest iM_leastDrawn), (arI rM_r kM_r 287 fM_r), (arI rM_told kM_told 90 fM_told), (arI rM_trial kM_trial 90 f_4462)]) (tys' := [(kM_st, .int), (kM_r, .int), (kM_told, .int), (kM_trial, .int)]) hB rfl ht hvm hP hD hK [1, 2, 0, 3] [4] rfl (by decide) (by decide) [3] hk1 hFc rfl rfl rfl
              clear hz1 hk1 hvm ht hB
              obtain ⟨x_4463, rfl⟩ : ∃ z, z = r := ⟨_, rfl⟩
              have hG := hG.trans (lt_eq hru9.symm)
              refine lv_istore (lv' := [(5, .int x_4463), (3, .long z_4458), (2, .int z_4448), (0, .ref oM), (1, .int p0)]) hx hb dX7_trySlips_100 hl (by decide) rfl (fun ls hl => ?_)
              refine lv_aload_n hx hb dX7_trySlips_102 rfl (lv_at hl 3 rfl) ?_
              refine lv_dup hx hb dX7_trySlips_103 rfl ?_
              refine va_get (D := (dC, dI)) (ci := 7) (v := .long z_4449) (C := RX7) (T := TX7) (N := 48) hx hb hts inX7 hown hK hP 1 rfl rfl 43 (by decide) (hts _ wd_1272) (fun _ h9 => h9) rfl dX7_trySlips_104 ?_
              refine lv_lload_n hx hb dX7_trySlips_107 rfl (lv_at hl 1 rfl) ?_
              refine lv_ladd hx hb dX7_trySlips_108 ?_
              refine lv_topl (fun y_4464 ey_4464 => ?_)
              have hG := hG.trans (lt_eq ey_4464)
              have pb9 := p100i (k := z_4457.toNatClampNeg) (by have q_1 := ti_cl (x := z_4457) rfl (by omega); omega)
              have va9 := addL_v ey_4464 (by omega) (by omega)
              refine va_put (D := (dC, dI)) (ci := 7) (v := .long y_4464) (ty := .long) (C := RX7) (T := TX7) (N := 48) hx hb hts inX7 tyX7 tyX7_ok nmX7 hown hK hP hD hS 1 rfl rfl 43 (by decide) (hts _ wd_1272) (fun _ h9 => h9) rfl (by decide +kernel) rfl rfl (Nat.le_of_ble_eq_true rfl) dX7_trySlips_109 (fun H locs hP hD hS => ?_)
              obtain ⟨hP, hD⟩ := wl2 (ws' := [(arI rM_st kM_st 90 fM_st), (oc7 oM iM_thrown rM_tape iM_taped iM_size iM_at iM_end iM_token iM_whole iM_nameSize iM_fault iM_place iM_trouble rM_letters iM_failed iM_hasCourt rM_r rM_fresh rM_told rM_read rM_st rM_undone rM_kept iM_undos iM_images rM_fresher iM_fresherSize iM_scale iM_night rM_heardRow rM_cutRow iM_breaths iM_cutMany iM_allBreaths rM_trial rM_words iM_fewestBreaths iM_orderMany iM_orderSum iM_leastOrder rM_often iM_setMany iM_someOf iM_allOf y_4464 z_4450 z_4451 iM_firstRest iM_leastDrawn), (arI rM_r kM_r 287 fM_r), (arI rM_told kM_told 90 fM_told), (arI rM_trial kM_trial 90 f_4462)]) hP hD rfl
              refine lv_aload_n hx hb dX7_trySlips_112 rfl (lv_at hl 3 rfl) ?_
              refine lv_dup hx hb dX7_trySlips_113 rfl ?_
              refine va_get (D := (dC, dI)) (ci := 7) (v := .long z_4450) (C := RX7) (T := TX7) (N := 48) hx hb hts inX7 hown hK hP 1 rfl rfl 44 (by decide) (hts _ wd_1271) (fun _ h9 => h9) rfl dX7_trySlips_114 ?_
              refine lv_iload hx hb dX7_trySlips_117 (lv_at hl 0 rfl) ?_
              refine lv_iload_n hx hb dX7_trySlips_119 rfl (lv_at hl 4 rfl) ?_
              refine lv_aload_n hx hb dX7_trySlips_120 rfl (lv_at hl 3 rfl) ?_
              refine va_get (D := (dC, dI)) (ci := 7) (v := .int iM_scale) (C := RX7) (T := TX7) (N := 48) hx hb hts inX7 hown hK hP 1 rfl rfl 26 (by decide) (hts _ wd_163) (fun _ h9 => h9) rfl dX7_trySlips_121 ?_
              refine lv_imul hx hb dX7_trySlips_124 ?_
              refine lv_topi (fun x_4465 ex_4465 => ?_)
              have hG := hG.trans (lt_eq ex_4465)
              refine lv_icmp_lt (tgt := 132) hx hb dX7_trySlips_125 (by decide) (fun c_4466 => ?_) (fun c_4466 => ?_)
              · skip
                have hG := hG.trans (if_pos c_4466)
                have gc_4466 := ti_lt c_4466 rfl rfl
                refine lv_lconst (v := 0) hx hb dX7_trySlips_132 (by decide) ?_
                refine lv_ladd hx hb dX7_trySlips_133 ?_
                refine lv_topl (fun y_4467 ey_4467 => ?_)
                have hG := hG.trans (lt_eq ey_4467)
                refine va_put (D := (dC, dI)) (ci := 7) (v := .long y_4467) (ty := .long) (C := RX7) (T := TX7) (N := 48) hx hb hts inX7 tyX7 tyX7_ok nmX7 hown hK hP hD hS 1 rfl rfl 44 (by decide) (hts _ wd_1271) (fun _ h9 => h9) rfl (by decide +kernel) rfl rfl (Nat.le_of_ble_eq_true rfl) dX7_trySlips_134 (fun H locs hP hD hS => ?_)
                obtain ⟨hP, hD⟩ := wl2 (ws' := [(arI rM_st kM_st 90 fM_st), (oc7 oM iM_thrown rM_tape iM_taped iM_size iM_at iM_end iM_token iM_whole iM_nameSize iM_fault iM_place iM_trouble rM_letters iM_failed iM_hasCourt rM_r rM_fresh rM_told rM_read rM_st rM_undone rM_kept iM_undos iM_images rM_fresher iM_fresherSize iM_scale iM_night rM_heardRow rM_cutRow iM_breaths iM_cutMany iM_allBreaths rM_trial rM_words iM_fewestBreaths iM_orderMany iM_orderSum iM_leastOrder rM_often iM_setMany iM_someOf iM_allOf y_4464 y_4467 z_4451 iM_firstRest iM_leastDrawn), (arI rM_r kM_r 287 fM_r), (arI rM_told kM_told 90 fM_told), (arI rM_trial kM_trial 90 f_4462)]) hP hD rfl
                refine lv_aload_n hx hb dX7_trySlips_137 rfl (lv_at hl 3 rfl) ?_
                refine lv_dup hx hb dX7_trySlips_138 rfl ?_
                refine va_get (D := (dC, dI)) (ci := 7) (v := .long z_4451) (C := RX7) (T := TX7) (N := 48) hx hb hts inX7 hown hK hP 1 rfl rfl 45 (by decide) (hts _ wd_1277) (fun _ h9 => h9) rfl dX7_trySlips_139 ?_
                refine lv_lload_n hx hb dX7_trySlips_142 rfl (lv_at hl 1 rfl) ?_
                refine lv_iload hx hb dX7_trySlips_143 (lv_at hl 0 rfl) ?_
                obtain ⟨y_4468, ey_4468⟩ : ∃ z : Int64, z = (x_4463 : Int32).toInt64 := ⟨_, rfl⟩
                have hG := hG.trans (lt_eq ey_4468)
                refine lv_i2l (v := y_4468) hx hb dX7_trySlips_145 ey_4468.symm ?_
                refine lv_lmul hx hb dX7_trySlips_146 ?_
                refine lv_topl (fun y_4469 ey_4469 => ?_)
                have hG := hG.trans (lt_eq ey_4469)
                refine lv_ladd hx hb dX7_trySlips_147 ?_
                refine lv_topl (fun y_4470 ey_4470 => ?_)
                have hG := hG.trans (lt_eq ey_4470)
                refine va_put (D := (dC, dI)) (ci := 7) (v := .long y_4470) (ty := .long) (C := RX7) (T := TX7) (N := 48) hx hb hts inX7 tyX7 tyX7_ok nmX7 hown hK hP hD hS 1 rfl rfl 45 (by decide) (hts _ wd_1277) (fun _ h9 => h9) rfl (by decide +kernel) rfl rfl (Nat.le_of_ble_eq_true rfl) dX7_trySlips_148 (fun H locs hP hD hS => ?_)
                obtain ⟨hP, hD⟩ := wl2 (ws' := [(arI rM_st kM_st 90 fM_st), (oc7 oM iM_thrown rM_tape iM_taped iM_size iM_at iM_end iM_token iM_whole iM_nameSize iM_fault iM_place iM_trouble rM_letters iM_failed iM_hasCourt rM_r rM_fresh rM_told rM_read rM_st rM_undone rM_kept iM_undos iM_images rM_fresher iM_fresherSize iM_scale iM_night rM_heardRow rM_cutRow iM_breaths iM_cutMany iM_allBreaths rM_trial rM_words iM_fewestBreaths iM_orderMany iM_orderSum iM_leastOrder rM_often iM_setMany iM_someOf iM_allOf y_4464 y_4467 y_4470 iM_firstRest iM_leastDrawn), (arI rM_r kM_r 287 fM_r), (arI rM_told kM_told 90 fM_told), (arI rM_trial kM_trial 90 f_4462)]) hP hD rfl
                obtain ⟨x_4471, ex_4471⟩ : ∃ z : Int32, z = z_4448 + Int32.ofInt 1 := ⟨_, rfl⟩
                have hG := hG.trans (lt_eq ex_4471)
                have vx_4471 : x_4471.toInt = z_4448.toInt + 1 := by have q := ti_add (y := 1) ex_4471 rfl kc_1 (by omega) (by omega); omega
                refine lv_iinc (v := x_4471) (lv' := [(2, .int x_4471), (5, .int x_4463), (3, .long z_4458), (0, .ref oM), (1, .int p0)]) hx hb dX7_trySlips_151 hl (k := 2) rfl ex_4471.symm (by decide) rfl (fun ls hl => ?_)
                refine lv_goto (tgt := 17) hx hb dX7_trySlips_154 (by decide) ?_
                exact ih_n_4453 x_4471 y_4464 y_4467 y_4470 f_4462 _ _ _  (by first | omega | decide | assumption) (by first | omega | decide | assumption) (by first | omega | decide | assumption) (by first | omega | decide | assumption) (by omega) hG (hP.sub [1, 2, 3, 0, 4] rfl) (hD.sub [1, 2, 3, 0, 4] (by decide) rfl) hS (lv_sub hl [0, 3, 4] rfl)
              · skip
                have hG := hG.trans (if_neg c_4466)
                have gc_4466 := ti_nlt c_4466 rfl rfl
                refine lv_lload_n hx hb dX7_trySlips_128 rfl (lv_at hl 1 rfl) ?_
                refine lv_goto (tgt := 133) hx hb dX7_trySlips_129 (by decide) ?_
                refine lv_ladd hx hb dX7_trySlips_133 ?_
                refine lv_topl (fun y_4472 ey_4472 => ?_)
                have hG := hG.trans (lt_eq ey_4472)
                refine va_put (D := (dC, dI)) (ci := 7) (v := .long y_4472) (ty := .long) (C := RX7) (T := TX7) (N := 48) hx hb hts inX7 tyX7 tyX7_ok nmX7 hown hK hP hD hS 1 rfl rfl 44 (by decide) (hts _ wd_1271) (fun _ h9 => h9) rfl (by decide +kernel) rfl rfl (Nat.le_of_ble_eq_true rfl) dX7_trySlips_134 (fun H locs hP hD hS => ?_)
                obtain ⟨hP, hD⟩ := wl2 (ws' := [(arI rM_st kM_st 90 fM_st), (oc7 oM iM_thrown rM_tape iM_taped iM_size iM_at iM_end iM_token iM_whole iM_nameSize iM_fault iM_place iM_trouble rM_letters iM_failed iM_hasCourt rM_r rM_fresh rM_told rM_read rM_st rM_undone rM_kept iM_undos iM_images rM_fresher iM_fresherSize iM_scale iM_night rM_heardRow rM_cutRow iM_breaths iM_cutMany iM_allBreaths rM_trial rM_words iM_fewestBreaths iM_orderMany iM_orderSum iM_leastOrder rM_often iM_setMany iM_someOf iM_allOf y_4464 y_4472 z_4451 iM_firstRest iM_leastDrawn), (arI rM_r kM_r 287 fM_r), (arI rM_told kM_told 90 fM_told), (arI rM_trial kM_trial 90 f_4462)]) hP hD rfl
                refine lv_aload_n hx hb dX7_trySlips_137 rfl (lv_at hl 3 rfl) ?_
                refine lv_dup hx hb dX7_trySlips_138 rfl ?_
                refine va_get (D := (dC, dI)) (ci := 7) (v := .long z_4451) (C := RX7) (T := TX7) (N := 48) hx hb hts inX7 hown hK hP 1 rfl rfl 45 (by decide) (hts _ wd_1277) (fun _ h9 => h9) rfl dX7_trySlips_139 ?_
                refine lv_lload_n hx hb dX7_trySlips_142 rfl (lv_at hl 1 rfl) ?_
                refine lv_iload hx hb dX7_trySlips_143 (lv_at hl 0 rfl) ?_
                obtain ⟨y_4473, ey_4473⟩ : ∃ z : Int64, z = (x_4463 : Int32).toInt64 := ⟨_, rfl⟩
                have hG := hG.trans (lt_eq ey_4473)
                refine lv_i2l (v := y_4473) hx hb dX7_trySlips_145 ey_4473.symm ?_
                refine lv_lmul hx hb dX7_trySlips_146 ?_
                refine lv_topl (fun y_4474 ey_4474 => ?_)
                have hG := hG.trans (lt_eq ey_4474)
                refine lv_ladd hx hb dX7_trySlips_147 ?_
                refine lv_topl (fun y_4475 ey_4475 => ?_)
                have hG := hG.trans (lt_eq ey_4475)
                refine va_put (D := (dC, dI)) (ci := 7) (v := .long y_4475) (ty := .long) (C := RX7) (T := TX7) (N := 48) hx hb hts inX7 tyX7 tyX7_ok nmX7 hown hK hP hD hS 1 rfl rfl 45 (by decide) (hts _ wd_1277) (fun _ h9 => h9) rfl (by decide +kernel) rfl rfl (Nat.le_of_ble_eq_true rfl) dX7_trySlips_148 (fun H locs hP hD hS => ?_)
                obtain ⟨hP, hD⟩ := wl2 (ws' := [(arI rM_st kM_st 90 fM_st), (oc7 oM iM_thrown rM_tape iM_taped iM_size iM_at iM_end iM_token iM_whole iM_nameSize iM_fault iM_place iM_trouble rM_letters iM_failed iM_hasCourt rM_r rM_fresh rM_told rM_read rM_st rM_undone rM_kept iM_undos iM_images rM_fresher iM_fresherSize iM_scale iM_night rM_heardRow rM_cutRow iM_breaths iM_cutMany iM_allBreaths rM_trial rM_words iM_fewestBreaths iM_orderMany iM_orderSum iM_leastOrder rM_often iM_setMany iM_someOf iM_allOf y_4464 y_4472 y_4475 iM_firstRest iM_leastDrawn), (arI rM_r kM_r 287 fM_r), (arI rM_told kM_told 90 fM_told), (arI rM_trial kM_trial 90 f_4462)]) hP hD rfl
                obtain ⟨x_4476, ex_4476⟩ : ∃ z : Int32, z = z_4448 + Int32.ofInt 1 := ⟨_, rfl⟩
                have hG := hG.trans (lt_eq ex_4476)
                have vx_4476 : x_4476.toInt = z_4448.toInt + 1 := by have q := ti_add (y := 1) ex_4476 rfl kc_1 (by omega) (by omega); omega
                refine lv_iinc (v := x_4476) (lv' := [(2, .int x_4476), (5, .int x_4463), (3, .long z_4458), (0, .ref oM), (1, .int p0)]) hx hb dX7_trySlips_151 hl (k := 2) rfl ex_4476.symm (by decide) rfl (fun ls hl => ?_)
                refine lv_goto (tgt := 17) hx hb dX7_trySlips_154 (by decide) ?_
                exact ih_n_4453 x_4476 y_4464 y_4472 y_4475 f_4462 _ _ _  (by first | omega | decide | assumption) (by first | omega | decide | assumption) (by first | omega | decide | assumption) (by first | omega | decide | assumption) (by omega) hG (hP.sub [1, 2, 3, 0, 4] rfl) (hD.sub [1, 2, 3, 0, 4] (by decide) rfl) hS (lv_sub hl [0, 3, 4] rfl)
            · skip
              have hG := hG.trans (if_neg c_4461)
              have gc_4461 := ti_nle c_4461 rfl rfl
              refine lv_lload_n hx hb dX7_trySlips_45 rfl (lv_at hl 1 rfl) ?_
              refine lv_iload_n hx hb dX7_trySlips_46 rfl (lv_at hl 2 rfl) ?_
              refine lv_iload hx hb dX7_trySlips_47 (lv_at hl 0 rfl) ?_
              have hFc : ∀ q, va_A [] _ q → A q := fun q h => hA q (Nat.le_trans hS.1 (va_nilA h))
              refine va_calli (va_runS (As := [.int z_4448, .int z_4457]) (rest := [.long z_4458]) ⟨hx, hb, hml, hown, hts⟩ (tX7_hasBit l dC dI _ z_4448 z_4457 ) (va_cwS 2 hts (wd_S wd_968 wd_969 wd_5 (wd_c wd_970)) rfl rfl rfl (by decide +kernel) ⟨Nat.le_of_ble_eq_true rfl, Nat.le_of_ble_eq_true rfl⟩) ⟨Pw.fb, fun U hU hW => Pn.to hK hE hS hA hU hW⟩ rfl rfl hl.1 rfl (lv_room (Nat.le_of_ble_eq_true rfl)) dX7_trySlips_49 ⟨Nat.le_of_ble_eq_true rfl, Nat.le_of_ble_eq_true rfl⟩) hS (fun q _ h => hFc q h) hFc (fun r u t H locs ht hvm hw hB hz1 hk1 hS => ?_)
              obtain ⟨hP, hD, hK⟩ := Bw.same ht hvm hP hD hK hk1 hFc
              clear hz1 hk1 hvm ht hB
              have hq9 := hw.2
              have hw := hw.1
              obtain ⟨x_4477, rfl⟩ : ∃ z, z = r := ⟨_, rfl⟩
              have hq_x_4477 := hq9
              have hG := hG.trans (lt_eq hq_x_4477.symm)
              have bx_4477 := hw.1
              have dx_4477 := bz_ti bx_4477
              have px_4477 := hw.2
              rcases px_4477 with ⟨gx_4477, hx_4477⟩ | ⟨gx_4477, hx_4477⟩
              · skip
                have g9x_4477 : x_4477.toInt = 1 := by rw [gx_4477]; exact kc_1
                have hb9 : bitN z_4448 z_4457.toNatClampNeg := (tb_bit (by omega) (by omega)).mp hx_4477
                refine lv_if_eq (tgt := 65) hx hb dX7_trySlips_52 (by decide) (fun c_4478 => ?_) (fun c_4478 => ?_)
                · skip
                  have hG := hG.trans (if_pos c_4478)
                  have gc_4478 := ti_eq c_4478 rfl kc_0
                  exfalso; clear hG; omega
                · skip
                  have hG := hG.trans (if_neg c_4478)
                  have gc_4478 := ti_ne c_4478 rfl kc_0
                  refine lv_aload_n hx hb dX7_trySlips_55 rfl (lv_at hl 3 rfl) ?_
                  refine va_get (D := (dC, dI)) (ci := 7) (v := .ref rM_r) (C := RX7) (T := TX7) (N := 48) hx hb hts inX7 hown hK hP 0 rfl rfl 15 (by decide) (hts _ wd_155) (fun _ h9 => h9) rfl dX7_trySlips_56 ?_
                  refine lv_iconst (v := 0) hx hb dX7_trySlips_59 (by decide) ?_
                  refine va_iald hx hb hK hP 1 0 rfl rfl (by unfold vp_in; decide) dX7_trySlips_60 ?_
                  refine lv_topi (fun x_4479 ex_4479 => ?_)
                  have hG := hG.trans (lt_eq ex_4479)
                  have cx_4479 : (fM_r 0).toInt = x_4479.toInt := congrArg Int32.toInt (show fM_r 0 = x_4479 from ex_4479.symm)
                  have sx_4479 := r_R.slips
                  obtain ⟨y_4480, ey_4480⟩ : ∃ z : Int64, z = (x_4479 : Int32).toInt64 := ⟨_, rfl⟩
                  have hG := hG.trans (lt_eq ey_4480)
                  refine lv_i2l (v := y_4480) hx hb dX7_trySlips_61 ey_4480.symm ?_
                  refine lv_goto (tgt := 75) hx hb dX7_trySlips_62 (by decide) ?_
                  refine lv_lmul hx hb dX7_trySlips_75 ?_
                  refine lv_topl (fun y_4481 ey_4481 => ?_)
                  have hG := hG.trans (lt_eq ey_4481)
                  have vb9 := i2l_v ey_4480
                  have q_k9 := ti_cl (x := z_4457) rfl (by omega)
                  have sl9 := slip_step (k := z_4457.toNatClampNeg) ey_4481 (by omega) (hi1_n_4459).2 (by omega) (by omega) (by omega)
                  have sz9 : bitN z_4448 z_4457.toNatClampNeg → z_4448.toInt ≠ 0 := fun h => bit_nz h
                  have sl8 : z_4448.toInt + 1 = (2 : Int) ^ (fM_r 3).toInt.toNat → bitN z_4448 z_4457.toNatClampNeg := fun h => bit_last h (by omega) (by omega)
                  have sz8 : z_4448.toInt ≠ 0 := by first | exact sz9 hb9 | exact fun h => hb9 (sl8 h)
                  refine lv_lstore_n (lv' := [(3, .long y_4481), (5, .int z_4457), (2, .int z_4448), (0, .ref oM), (1, .int p0)]) hx hb dX7_trySlips_76 rfl hl (by decide) rfl (fun ls hl => ?_)
                  obtain ⟨x_4482, ex_4482⟩ : ∃ z : Int32, z = z_4457 + Int32.ofInt 1 := ⟨_, rfl⟩
                  have hG := hG.trans (lt_eq ex_4482)
                  have vx_4482 : x_4482.toInt = z_4457.toInt + 1 := by have q := ti_add (y := 1) ex_4482 rfl kc_1 (by omega) (by omega); omega
                  refine lv_iinc (v := x_4482) (lv' := [(5, .int x_4482), (3, .long y_4481), (2, .int z_4448), (0, .ref oM), (1, .int p0)]) hx hb dX7_trySlips_77 hl (k := 1) rfl ex_4482.symm (by decide) rfl (fun ls hl => ?_)
                  refine lv_goto (tgt := 34) hx hb dX7_trySlips_80 (by decide) ?_
                  exact ih_n_4459 x_4482 y_4481 _ _ _  (by first | omega | decide | assumption) (by rw [show x_4482.toNatClampNeg = z_4457.toNatClampNeg + 1 from (by have q_1 := ti_cl (x := x_4482) vx_4482 (by omega); have q_2 := ti_cl (x := z_4457) rfl (by omega); omega)]; exact ⟨sl9.1, sl9.2.1⟩) (by have sa := sl9.2.2; have sb := hi2_n_4459; omega) (by have sa := sl9.2.2; have sb := hi3_n_4459; omega) (by omega) hG (hP.sub [0, 1, 2, 3, 4] rfl) (hD.sub [0, 1, 2, 3, 4] (by decide) rfl) hS (lv_sub hl [0, 1, 2, 3, 4] rfl)
              · skip
                have g9x_4477 : x_4477.toInt = 0 := by rw [gx_4477]; exact kc_0
                have hb9 : ¬ bitN z_4448 z_4457.toNatClampNeg := fun z9 => hx_4477 ((tb_bit (by omega) (by omega)).mpr z9)
                refine lv_if_eq (tgt := 65) hx hb dX7_trySlips_52 (by decide) (fun c_4483 => ?_) (fun c_4483 => ?_)
                · skip
                  have hG := hG.trans (if_pos c_4483)
                  have gc_4483 := ti_eq c_4483 rfl kc_0
                  refine lv_bipush (v := 100) hx hb dX7_trySlips_65 (by decide) ?_
                  refine lv_aload_n hx hb dX7_trySlips_67 rfl (lv_at hl 3 rfl) ?_
                  refine va_get (D := (dC, dI)) (ci := 7) (v := .ref rM_r) (C := RX7) (T := TX7) (N := 48) hx hb hts inX7 hown hK hP 0 rfl rfl 15 (by decide) (hts _ wd_155) (fun _ h9 => h9) rfl dX7_trySlips_68 ?_
                  refine lv_iconst (v := 0) hx hb dX7_trySlips_71 (by decide) ?_
                  refine va_iald hx hb hK hP 1 0 rfl rfl (by unfold vp_in; decide) dX7_trySlips_72 ?_
                  refine lv_topi (fun x_4484 ex_4484 => ?_)
                  have hG := hG.trans (lt_eq ex_4484)
                  have cx_4484 : (fM_r 0).toInt = x_4484.toInt := congrArg Int32.toInt (show fM_r 0 = x_4484 from ex_4484.symm)
                  have sx_4484 := r_R.slips
                  refine lv_isub hx hb dX7_trySlips_73 ?_
                  refine lv_topi (fun x_4485 ex_4485 => ?_)
                  have hG := hG.trans (lt_eq ex_4485)
                  have vx_4485 : x_4485.toInt = (-1) * x_4484.toInt + 100 := by have q := ti_sub ex_4485 kc_100 rfl (by omega) (by omega); omega
                  obtain ⟨y_4486, ey_4486⟩ : ∃ z : Int64, z = (x_4485 : Int32).toInt64 := ⟨_, rfl⟩
                  have hG := hG.trans (lt_eq ey_4486)
                  refine lv_i2l (v := y_4486) hx hb dX7_trySlips_74 ey_4486.symm ?_
                  refine lv_lmul hx hb dX7_trySlips_75 ?_
                  refine lv_topl (fun y_4487 ey_4487 => ?_)
                  have hG := hG.trans (lt_eq ey_4487)
                  have vb9 := i2l_v ey_4486
                  have q_k9 := ti_cl (x := z_4457) rfl (by omega)
                  have sl9 := slip_step (k := z_4457.toNatClampNeg) ey_4487 (by omega) (hi1_n_4459).2 (by omega) (by omega) (by omega)
                  have sz9 : bitN z_4448 z_4457.toNatClampNeg → z_4448.toInt ≠ 0 := fun h => bit_nz h
                  have sl8 : z_4448.toInt + 1 = (2 : Int) ^ (fM_r 3).toInt.toNat → bitN z_4448 z_4457.toNatClampNeg := fun h => bit_last h (by omega) (by omega)
                  have sz8 : ¬ (z_4448.toInt + 1 = (2 : Int) ^ (fM_r 3).toInt.toNat) := by first | exact sz9 hb9 | exact fun h => hb9 (sl8 h)
                  refine lv_lstore_n (lv' := [(3, .long y_4487), (5, .int z_4457), (2, .int z_4448), (0, .ref oM), (1, .int p0)]) hx hb dX7_trySlips_76 rfl hl (by decide) rfl (fun ls hl => ?_)
                  obtain ⟨x_4488, ex_4488⟩ : ∃ z : Int32, z = z_4457 + Int32.ofInt 1 := ⟨_, rfl⟩
                  have hG := hG.trans (lt_eq ex_4488)
                  have vx_4488 : x_4488.toInt = z_4457.toInt + 1 := by have q := ti_add (y := 1) ex_4488 rfl kc_1 (by omega) (by omega); omega
                  refine lv_iinc (v := x_4488) (lv' := [(5, .int x_4488), (3, .long y_4487), (2, .int z_4448), (0, .ref oM), (1, .int p0)]) hx hb dX7_trySlips_77 hl (k := 1) rfl ex_4488.symm (by decide) rfl (fun ls hl => ?_)
                  refine lv_goto (tgt := 34) hx hb dX7_trySlips_80 (by decide) ?_
                  exact ih_n_4459 x_4488 y_4487 _ _ _  (by first | omega | decide | assumption) (by rw [show x_4488.toNatClampNeg = z_4457.toNatClampNeg + 1 from (by have q_1 := ti_cl (x := x_4488) vx_4488 (by omega); have q_2 := ti_cl (x := z_4457) rfl (by omega); omega)]; exact ⟨sl9.1, sl9.2.1⟩) (by have sa := sl9.2.2; have sb := hi2_n_4459; omega) (by have sa := sl9.2.2; have sb := hi3_n_4459; omega) (by omega) hG (hP.sub [0, 1, 2, 3, 4] rfl) (hD.sub [0, 1, 2, 3, 4] (by decide) rfl) hS (lv_sub hl [0, 1, 2, 3, 4] rfl)
                · skip
                  have hG := hG.trans (if_neg c_4483)
                  have gc_4483 := ti_ne c_4483 rfl kc_0
                  exfalso; clear hG; omega
        exact key_n_4459 ((((fM_r 3).toInt - (0 : Int32).toInt).toNat) + 1) 0 1 _ _ _  (by first | omega | decide | assumption | (have q0 := kc_0; have q1 := kc_1; omega)) (by first | omega | decide | assumption | (have q0 := kc_0; have q1 := kc_1; omega)) (by first | omega | decide | assumption | (have q0 := kc_0; have q1 := kc_1; omega)) (by first | omega | decide | assumption | (have q0 := kc_0; have q1 := kc_1; omega)) (by omega) hG hP hD hS hl
  exact key_n_4453 ((((2 : Int) ^ (fM_r 3).toInt.toNat - (0 : Int32).toInt).toNat) + 1) 0 0 0 0 fM_trial _ _ _  (by first | omega | decide | assumption | (have q0 := kc_0; have q1 := kc_1; omega)) (by first | omega | decide | assumption | (have q0 := kc_0; have q1 := kc_1; omega)) (by first | omega | decide | assumption | (have q0 := kc_0; have q1 := kc_1; omega)) (by first | omega | decide | assumption | (have q0 := kc_0; have q1 := kc_1; omega)) (by omega) hG hP hD hS hl
set_option maxHeartbeats 4000000 in
set_option maxRecDepth 100000 in
theorem tX7_odds (l : Launch) (dC : Nat → ClassId) (dI : Nat → Nat → Nat) (sz : Nat) (oM : Nat) (iM_thrown : Int32) (rM_tape : Nat) (iM_taped : Int32) (iM_size : Int32) (iM_at : Int32) (iM_end : Int32) (iM_token : Int32) (iM_whole : Int32) (iM_nameSize : Int32) (iM_fault : Int32) (iM_place : Int32) (iM_trouble : Int32) (rM_letters : Nat) (iM_failed : Int32) (iM_hasCourt : Int32) (rM_r : Nat) (fM_r : Nat → Int32) (kM_r : ClassId) (rM_fresh : Nat) (rM_told : Nat) (fM_told : Nat → Int32) (kM_told : ClassId) (rM_read : Nat) (rM_st : Nat) (fM_st : Nat → Int32) (kM_st : ClassId) (rM_undone : Nat) (rM_kept : Nat) (iM_undos : Int32) (iM_images : Int32) (rM_fresher : Nat) (iM_fresherSize : Int32) (iM_scale : Int32) (iM_night : Int32) (rM_heardRow : Nat) (rM_cutRow : Nat) (iM_breaths : Int32) (iM_cutMany : Int32) (iM_allBreaths : Int32) (rM_trial : Nat) (fM_trial : Nat → Int32) (kM_trial : ClassId) (rM_words : Nat) (iM_fewestBreaths : Int32) (iM_orderMany : Int32) (iM_orderSum : Int32) (iM_leastOrder : Int32) (rM_often : Nat) (iM_setMany : Int32) (iM_someOf : Int32) (iM_allOf : Int32) (iM_allWeight : Int64) (iM_enoughWeight : Int64) (iM_worthSum : Int64) (iM_firstRest : Int32) (iM_leastDrawn : Int32) (p0 : Int32) (p1 : Int32) (b_iM_taped : 0 ≤ iM_taped.toInt ∧ iM_taped.toInt ≤ 900) (b_iM_size : 0 ≤ iM_size.toInt ∧ iM_size.toInt ≤ 900) (b_iM_end : 0 ≤ iM_end.toInt ∧ iM_end.toInt ≤ 900) (b_iM_failed : 0 ≤ iM_failed.toInt ∧ iM_failed.toInt ≤ 1) (b_iM_hasCourt : 0 ≤ iM_hasCourt.toInt ∧ iM_hasCourt.toInt ≤ 1) (b_iM_undos : 0 ≤ iM_undos.toInt ∧ iM_undos.toInt ≤ 16) (b_iM_images : 0 ≤ iM_images.toInt ∧ iM_images.toInt ≤ 3) (b_iM_scale : 1 ≤ iM_scale.toInt ∧ iM_scale.toInt ≤ 1296) (b_iM_breaths : 0 ≤ iM_breaths.toInt ∧ iM_breaths.toInt ≤ 399) (b_iM_cutMany : 0 ≤ iM_cutMany.toInt ∧ iM_cutMany.toInt ≤ 399) (r_R : ROk fM_r) (r_C : iM_hasCourt.toInt ≤ 0 ∨ (1 ≤ (fM_r 1).toInt ∧ 0 ≤ (fM_r 6).toInt ∧ (fM_r 6).toInt < (fM_r 1).toInt)) (r_st : RowOk fM_r fM_st) (r_told : RowOk fM_r fM_told) (r_wst : WorOk fM_st)  : Met l yX7_odds (Cond.code yX7_odds cX7_odds 4 (some .long) :: wG) ({ frames := 23, cells := 0, slots := 0, locals := 610 }) (va_Pc [.ref oM, .int p0, .int p1] (Pw dC dI sz [(oc7 oM iM_thrown rM_tape iM_taped iM_size iM_at iM_end iM_token iM_whole iM_nameSize iM_fault iM_place iM_trouble rM_letters iM_failed iM_hasCourt rM_r rM_fresh rM_told rM_read rM_st rM_undone rM_kept iM_undos iM_images rM_fresher iM_fresherSize iM_scale iM_night rM_heardRow rM_cutRow iM_breaths iM_cutMany iM_allBreaths rM_trial rM_words iM_fewestBreaths iM_orderMany iM_orderSum iM_leastOrder rM_often iM_setMany iM_someOf iM_allOf iM_allWeight iM_enoughWeight iM_worthSum iM_firstRest iM_leastDrawn), (arI rM_r kM_r 287 fM_r), (arI rM_told kM_told 90 fM_told), (arI rM_st kM_st 90 fM_st), (arI rM_trial kM_trial 90 fM_trial)] [(kM_r, .int), (kM_told, .int), (kM_st, .int), (kM_trial, .int)])) (va_Ql (fun (r : Int64) (u : Nat) => (True ∧ True) ∧ r = Int64.ofNat u) (fun (u : Nat) (t : State) => ∃ (niM_thrown : Int32) (niM_trouble : Int32) (niM_allWeight : Int64) (niM_enoughWeight : Int64) (niM_worthSum : Int64) (nfM_trial : Nat → Int32), (PX7_odds iM_hasCourt fM_r fM_told fM_st iM_scale iM_night fM_trial iM_allWeight iM_enoughWeight iM_worthSum p0 p1 = (Int64.ofNat u, niM_thrown, niM_trouble, niM_allWeight, niM_enoughWeight, niM_worthSum, nfM_trial)) ∧ Bw dC dI (va_A [(oc7 oM iM_thrown rM_tape iM_taped iM_size iM_at iM_end iM_token iM_whole iM_nameSize iM_fault iM_place iM_trouble rM_letters iM_failed iM_hasCourt rM_r rM_fresh rM_told rM_read rM_st rM_undone rM_kept iM_undos iM_images rM_fresher iM_fresherSize iM_scale iM_night rM_heardRow rM_cutRow iM_breaths iM_cutMany iM_allBreaths rM_trial rM_words iM_fewestBreaths iM_orderMany iM_orderSum iM_leastOrder rM_often iM_setMany iM_someOf iM_allOf iM_allWeight iM_enoughWeight iM_worthSum iM_firstRest iM_leastDrawn), (arI rM_r kM_r 287 fM_r), (arI rM_told kM_told 90 fM_told), (arI rM_st kM_st 90 fM_st), (arI rM_trial kM_trial 90 fM_trial)] sz) [(oc7 oM niM_thrown rM_tape iM_taped iM_size iM_at iM_end iM_token iM_whole iM_nameSize iM_fault iM_place niM_trouble rM_letters iM_failed iM_hasCourt rM_r rM_fresh rM_told rM_read rM_st rM_undone rM_kept iM_undos iM_images rM_fresher iM_fresherSize iM_scale iM_night rM_heardRow rM_cutRow iM_breaths iM_cutMany iM_allBreaths rM_trial rM_words iM_fewestBreaths iM_orderMany iM_orderSum iM_leastOrder rM_often iM_setMany iM_someOf iM_allOf niM_allWeight niM_enoughWeight niM_worthSum iM_firstRest iM_leastDrawn), (arI rM_r kM_r 287 fM_r), (arI rM_told kM_told 90 fM_told), (arI rM_st kM_st 90 fM_st), (arI rM_trial kM_trial 90 nfM_trial)] [(kM_r, .int), (kM_told, .int), (kM_st, .int), (kM_trial, .int)] t) (va_A [(oc7 oM iM_thrown rM_tape iM_taped iM_size iM_at iM_end iM_token iM_whole iM_nameSize iM_fault iM_place iM_trouble rM_letters iM_failed iM_hasCourt rM_r rM_fresh rM_told rM_read rM_st rM_undone rM_kept iM_undos iM_images rM_fresher iM_fresherSize iM_scale iM_night rM_heardRow rM_cutRow iM_breaths iM_cutMany iM_allBreaths rM_trial rM_words iM_fewestBreaths iM_orderMany iM_orderSum iM_leastOrder rM_often iM_setMany iM_someOf iM_allOf iM_allWeight iM_enoughWeight iM_worthSum iM_firstRest iM_leastDrawn), (arI rM_r kM_r 287 fM_r), (arI rM_told kM_told 90 fM_told), (arI rM_st kM_st 90 fM_st), (arI rM_trial kM_trial 90 fM_trial)] sz)) 0 0 (va_A [(oc7 oM iM_thrown rM_tape iM_taped iM_size iM_at iM_end iM_token iM_whole iM_nameSize iM_fault iM_place iM_trouble rM_letters iM_failed iM_hasCourt rM_r rM_fresh rM_told rM_read rM_st rM_undone rM_kept iM_undos iM_images rM_fresher iM_fresherSize iM_scale iM_night rM_heardRow rM_cutRow iM_breaths iM_cutMany iM_allBreaths rM_trial rM_words iM_fewestBreaths iM_orderMany iM_orderSum iM_leastOrder rM_often iM_setMany iM_someOf iM_allOf iM_allWeight iM_enoughWeight iM_worthSum iM_firstRest iM_leastDrawn), (arI rM_r kM_r 287 fM_r), (arI rM_told kM_told 90 fM_told), (arI rM_st kM_st 90 fM_st), (arI rM_trial kM_trial 90 fM_trial)] sz) := by
  refine Met.ofW (cc := cX7_odds) (maxL := 4) (ret := (some .long)) (by decide) rfl ?_
  intro p e s m args below meth c s₁ B hml hv
  obtain ⟨rfl, hsz, hP, hK, hD0, hE⟩ := hv
  have hx := B.exec
  have hb := B.bytes
  have hr := B.returns
  have hts : ∀ w ∈ wG, w.before ([.ref oM, .int p0, .int p1] : List Value).toArray s = true := fun w h => atoms_spec (ws := Cond.code yX7_odds cX7_odds 4 (some .long) :: wG) B.pre w (List.mem_cons_of_mem _ h)
  have hown : s.vm.findClass RX7 = some m.cls := findClass_of_methodNamed B.named
  have hlocks := B.notSynchronized
  subst hsz
  have hD := hD0.self (sz := s.heap.size)
  generalize hAe : va_A [(oc7 oM iM_thrown rM_tape iM_taped iM_size iM_at iM_end iM_token iM_whole iM_nameSize iM_fault iM_place iM_trouble rM_letters iM_failed iM_hasCourt rM_r rM_fresh rM_told rM_read rM_st rM_undone rM_kept iM_undos iM_images rM_fresher iM_fresherSize iM_scale iM_night rM_heardRow rM_cutRow iM_breaths iM_cutMany iM_allBreaths rM_trial rM_words iM_fewestBreaths iM_orderMany iM_orderSum iM_leastOrder rM_often iM_setMany iM_someOf iM_allOf iM_allWeight iM_enoughWeight iM_worthSum iM_firstRest iM_leastDrawn), (arI rM_r kM_r 287 fM_r), (arI rM_told kM_told 90 fM_told), (arI rM_st kM_st 90 fM_st), (arI rM_trial kM_trial 90 fM_trial)] s.heap.size = A at hD hE ⊢
  have hA : ∀ q : Nat, s.heap.size ≤ q → A q := fun q h => by rw [← hAe]; exact Or.inr h
  have hS : va_S A s.heap s.heap [] := va_S.rf
  have hl := lv_entry ([.ref oM, .int p0, .int p1]) (n := 4) (Nat.le_of_ble_eq_true rfl)
  rw [lg_entry_eq]
  generalize (lg_sl ([.ref oM, .int p0, .int p1]) ++ List.replicate (4 - (lg_sl ([.ref oM, .int p0, .int p1])).length) Slot.unset).toArray = ls at hl ⊢
  have hl : lv_has ls 4 [(0, .ref oM), (1, .int p0), (2, .int p1)] := hl
  have hG := PX7_odds_eq iM_hasCourt fM_r fM_told fM_st iM_scale iM_night fM_trial iM_allWeight iM_enoughWeight iM_worthSum p0 p1
  have s_slips := r_R.slips
  have s_nodes := r_R.nodes
  have s_uns := r_R.uns
  refine lv_aload_n hx hb dX7_odds_0 rfl (lv_at hl 0 rfl) ?_
  have hFc := va_free (wc := [(oc7 oM iM_thrown rM_tape iM_taped iM_size iM_at iM_end iM_token iM_whole iM_nameSize iM_fault iM_place iM_trouble rM_letters iM_failed iM_hasCourt rM_r rM_fresh rM_told rM_read rM_st rM_undone rM_kept iM_undos iM_images rM_fresher iM_fresherSize iM_scale iM_night rM_heardRow rM_cutRow iM_breaths iM_cutMany iM_allBreaths rM_trial rM_words iM_fewestBreaths iM_orderMany iM_orderSum iM_leastOrder rM_often iM_setMany iM_someOf iM_allOf iM_allWeight iM_enoughWeight iM_worthSum iM_firstRest iM_leastDrawn)]) hD hS hA [0] rfl
  refine va_callv (va_runV (As := []) (rest := []) ⟨hx, hb, hml, hown, hts⟩ (tX7_good l dC dI _ oM iM_thrown rM_tape iM_taped iM_size iM_at iM_end iM_token iM_whole iM_nameSize iM_fault iM_place iM_trouble rM_letters iM_failed iM_hasCourt rM_r rM_fresh rM_told rM_read rM_st rM_undone rM_kept iM_undos iM_images rM_fresher iM_fresherSize iM_scale iM_night rM_heardRow rM_cutRow iM_breaths iM_cutMany iM_allBreaths rM_trial rM_words iM_fewestBreaths iM_orderMany iM_orderSum iM_leastOrder rM_often iM_setMany iM_someOf iM_allOf iM_allWeight iM_enoughWeight iM_worthSum iM_firstRest iM_leastDrawn (by first | omega | decide) (by first | omega | decide) (by first | omega | decide) (by first | omega | decide) (by first | omega | decide) (by first | omega | decide) (by first | omega | decide) (by first | omega | decide) (by first | omega | decide) (by first | omega | decide)) (cwV 0 hts (wd_V wd_388 wd_389 wd_390 wd_5 (wd_c wd_391)) rfl rfl rfl (by decide +kernel) ⟨Nat.le_of_ble_eq_true rfl, Nat.le_of_ble_eq_true rfl⟩) ⟨Pw.fb, va_recv hK hP (ci := 7) (q0 := 0) rfl rfl, fun U hU hW => Pw.to (hP.sub [0] rfl) (hD.sub [0] (by decide) rfl) (hK.sub [] rfl) hE hS hFc hU hW⟩ rfl rfl hl.1 rfl (lv_room (Nat.le_of_ble_eq_true rfl)) dX7_odds_1 ⟨Nat.le_of_ble_eq_true rfl, Nat.le_of_ble_eq_true rfl⟩) hS (fun q _ h => hFc q h) hFc (fun u t H locs ht hvm hw hB hz1 hk1 hS => ?_)
  obtain ⟨x_4507, x_4508, b_x_4507, b_x_4508, e_x_4507_0, hB⟩ := hB
  obtain ⟨hP, hD, hK⟩ := Bw.go (ws' := [(arI rM_r kM_r 287 fM_r), (arI rM_told kM_told 90 fM_told), (arI rM_st kM_st 90 fM_st), (arI rM_trial kM_trial 90 fM_trial), (oc7 oM x_4507 rM_tape iM_taped iM_size iM_at iM_end iM_token iM_whole iM_nameSize iM_fault iM_place x_4508 rM_letters iM_failed iM_hasCourt rM_r rM_fresh rM_told rM_read rM_st rM_undone rM_kept iM_undos iM_images rM_fresher iM_fresherSize iM_scale iM_night rM_heardRow rM_cutRow iM_breaths iM_cutMany iM_allBreaths rM_trial rM_words iM_fewestBreaths iM_orderMany iM_orderSum iM_leastOrder rM_often iM_setMany iM_someOf iM_allOf iM_allWeight iM_enoughWeight iM_worthSum iM_firstRest iM_leastDrawn)]) (tys' := [(kM_r, .int), (kM_told, .int), (kM_st, .int), (kM_trial, .int)]) hB rfl ht hvm hP hD hK [0] [1, 2, 3, 4] rfl (by decide) (by decide) [0, 1, 2, 3] hk1 hFc rfl rfl rfl
  clear hz1 hk1 hvm ht hB
  have hG := hG.trans (un2_eq e_x_4507_0)
  refine lv_aload_n hx hb dX7_odds_4 rfl (lv_at hl 0 rfl) ?_
  refine lv_iload_n hx hb dX7_odds_5 rfl (lv_at hl 1 rfl) ?_
  refine lv_iconst (v := 0) hx hb dX7_odds_6 (by decide) ?_
  refine lv_bipush (v := 99) hx hb dX7_odds_7 (by decide) ?_
  have hFc : ∀ q, va_A [] _ q → A q := fun q h => hA q (Nat.le_trans hS.1 (va_nilA h))
  refine va_calli (va_runS (As := [.int p0, .int 0, .int 99]) (rest := [.ref oM]) ⟨hx, hb, hml, hown, hts⟩ (tX7_in l dC dI _ p0 0 99 ) (va_cwS 3 hts (wd_S wd_393 wd_394 wd_5 (wd_c wd_395)) rfl rfl rfl (by decide +kernel) ⟨Nat.le_of_ble_eq_true rfl, Nat.le_of_ble_eq_true rfl⟩) ⟨Pw.fb, fun U hU hW => Pn.to hK hE hS hA hU hW⟩ rfl rfl hl.1 rfl (lv_room (Nat.le_of_ble_eq_true rfl)) dX7_odds_9 ⟨Nat.le_of_ble_eq_true rfl, Nat.le_of_ble_eq_true rfl⟩) hS (fun q _ h => hFc q h) hFc (fun r u t H locs ht hvm hw hB hz1 hk1 hS => ?_)
  obtain ⟨hP, hD, hK⟩ := Bw.same ht hvm hP hD hK hk1 hFc
  clear hz1 hk1 hvm ht hB
  have hq9 := hw.2
  have hw := hw.1
  obtain ⟨x_4509, rfl⟩ : ∃ z, z = r := ⟨_, rfl⟩
  have hq_x_4509 := hq9
  have hG := hG.trans (lt_eq hq_x_4509.symm)
  have bx_4509 := hw.1
  have dx_4509 := bz_ti bx_4509
  have px_4509 := hw.2
  have hFc := va_free (wc := [(oc7 oM x_4507 rM_tape iM_taped iM_size iM_at iM_end iM_token iM_whole iM_nameSize iM_fault iM_place x_4508 rM_letters iM_failed iM_hasCourt rM_r rM_fresh rM_told rM_read rM_st rM_undone rM_kept iM_undos iM_images rM_fresher iM_fresherSize iM_scale iM_night rM_heardRow rM_cutRow iM_breaths iM_cutMany iM_allBreaths rM_trial rM_words iM_fewestBreaths iM_orderMany iM_orderSum iM_leastOrder rM_often iM_setMany iM_someOf iM_allOf iM_allWeight iM_enoughWeight iM_worthSum iM_firstRest iM_leastDrawn), (arI rM_r kM_r 287 fM_r)]) hD hS hA [4, 0] rfl
  refine va_calli (va_runV (As := [.int x_4509]) (rest := []) ⟨hx, hb, hml, hown, hts⟩ (tX7_why l dC dI _ oM x_4507 rM_tape iM_taped iM_size iM_at iM_end iM_token iM_whole iM_nameSize iM_fault iM_place x_4508 rM_letters iM_failed iM_hasCourt rM_r fM_r kM_r rM_fresh rM_told rM_read rM_st rM_undone rM_kept iM_undos iM_images rM_fresher iM_fresherSize iM_scale iM_night rM_heardRow rM_cutRow iM_breaths iM_cutMany iM_allBreaths rM_trial rM_words iM_fewestBreaths iM_orderMany iM_orderSum iM_leastOrder rM_often iM_setMany iM_someOf iM_allOf iM_allWeight iM_enoughWeight iM_worthSum iM_firstRest iM_leastDrawn x_4509 (by first | omega | decide) (by first | omega | decide) (by first | omega | decide) (by first | omega | decide) (by first | omega | decide) (by first | omega | decide) (by first | omega | decide) (by first | omega | decide) (by first | omega | decide) (by first | omega | decide) (by assumption) (by assumption) (by first | omega | decide | assumption | (have q0 := kc_0; have q1 := kc_1; omega) | (intro h; exact absurd h (by decide)))) (cwV 1 hts (wd_V wd_882 wd_883 wd_884 wd_5 (wd_c wd_885)) rfl rfl rfl (by decide +kernel) ⟨Nat.le_of_ble_eq_true rfl, Nat.le_of_ble_eq_true rfl⟩) ⟨Pw.fb, va_recv hK hP (ci := 7) (q0 := 4) rfl rfl, fun U hU hW => Pw.to (hP.sub [4, 0] rfl) (hD.sub [4, 0] (by decide) rfl) (hK.sub [0] rfl) hE hS hFc hU hW⟩ rfl rfl hl.1 rfl (lv_room (Nat.le_of_ble_eq_true rfl)) dX7_odds_12 ⟨Nat.le_of_ble_eq_true rfl, Nat.le_of_ble_eq_true rfl⟩) hS (fun q _ h => hFc q h) hFc (fun r u t H locs ht hvm hw hB hz1 hk1 hS => ?_)
  have hru9 := hw.2
  have hw := hw.1
  obtain ⟨hP, hD, hK⟩ := Bw.go (ws' := [(arI rM_told kM_told 90 fM_told), (arI rM_st kM_st 90 fM_st), (arI rM_trial kM_trial 90 fM_trial), (oc7 oM x_4507 rM_tape iM_taped iM_size iM_at iM_end iM_token iM_whole iM_nameSize iM_fault iM_place x_4508 rM_letters iM_failed iM_hasCourt rM_r rM_fresh rM_told rM_read rM_st rM_undone rM_kept iM_undos iM_images rM_fresher iM_fresherSize iM_scale iM_night rM_heardRow rM_cutRow iM_breaths iM_cutMany iM_allBreaths rM_trial rM_words iM_fewestBreaths iM_orderMany iM_orderSum iM_leastOrder rM_often iM_setMany iM_someOf iM_allOf iM_allWeight iM_enoughWeight iM_worthSum iM_firstRest iM_leastDrawn), (arI rM_r kM_r 287 fM_r)]) (tys' := [(kM_told, .int), (kM_st, .int), (kM_trial, .int), (kM_r, .int)]) hB rfl ht hvm hP hD hK [4, 0] [1, 2, 3] rfl (by decide) (by decide) [1, 2, 3] hk1 hFc rfl rfl rfl
  clear hz1 hk1 hvm ht hB
  rcases hw.2 with ⟨rfl, hc_4510⟩ | ⟨rfl, hc_4510⟩ | ⟨rfl, hc_4510⟩
  · skip
    have hG := hG.trans (lt_eq hru9.symm)
    have hG := hG.trans (if_pos rfl)
    refine lv_istore_n (lv' := [(3, .int 0), (0, .ref oM), (1, .int p0), (2, .int p1)]) hx hb dX7_odds_15 rfl hl (by decide) rfl (fun ls hl => ?_)
    refine lv_iload_n hx hb dX7_odds_16 rfl (lv_at hl 0 rfl) ?_
    refine lv_if_eq (tgt := 27) hx hb dX7_odds_17 (by decide) (fun _ => ?_) (fun c => absurd c (by decide))
    refine lv_aload_n hx hb dX7_odds_27 rfl (lv_at hl 1 rfl) ?_
    refine lv_iload_n hx hb dX7_odds_28 rfl (lv_at hl 2 rfl) ?_
    have hFc := va_free (wc := [(oc7 oM x_4507 rM_tape iM_taped iM_size iM_at iM_end iM_token iM_whole iM_nameSize iM_fault iM_place x_4508 rM_letters iM_failed iM_hasCourt rM_r rM_fresh rM_told rM_read rM_st rM_undone rM_kept iM_undos iM_images rM_fresher iM_fresherSize iM_scale iM_night rM_heardRow rM_cutRow iM_breaths iM_cutMany iM_allBreaths rM_trial rM_words iM_fewestBreaths iM_orderMany iM_orderSum iM_leastOrder rM_often iM_setMany iM_someOf iM_allOf iM_allWeight iM_enoughWeight iM_worthSum iM_firstRest iM_leastDrawn), (arI rM_r kM_r 287 fM_r), (arI rM_told kM_told 90 fM_told), (arI rM_st kM_st 90 fM_st), (arI rM_trial kM_trial 90 fM_trial)]) hD hS hA [3, 4, 0, 1, 2] rfl
    refine va_callv (va_runV (As := [.int p0]) (rest := []) ⟨hx, hb, hml, hown, hts⟩ (tX7_trySlips l dC dI _ oM x_4507 rM_tape iM_taped iM_size iM_at iM_end iM_token iM_whole iM_nameSize iM_fault iM_place x_4508 rM_letters iM_failed iM_hasCourt rM_r fM_r kM_r rM_fresh rM_told fM_told kM_told rM_read rM_st fM_st kM_st rM_undone rM_kept iM_undos iM_images rM_fresher iM_fresherSize iM_scale iM_night rM_heardRow rM_cutRow iM_breaths iM_cutMany iM_allBreaths rM_trial fM_trial kM_trial rM_words iM_fewestBreaths iM_orderMany iM_orderSum iM_leastOrder rM_often iM_setMany iM_someOf iM_allOf iM_allWeight iM_enoughWeight iM_worthSum iM_firstRest iM_leastDrawn p0 (by first | omega | decide) (by first | omega | decide) (by first | omega | decide) (by first | omega | decide) (by first | omega | decide) (by first | omega | decide) (by first | omega | decide) (by first | omega | decide) (by first | omega | decide) (by first | omega | decide) (by assumption) (by assumption) (by assumption) (by assumption) (by assumption) (by first | omega | decide | assumption | (have q0 := kc_0; have q1 := kc_1; omega) | (intro h; exact absurd h (by decide)))) (cwV 1 hts (wd_V wd_1273 wd_1274 wd_1275 wd_5 (wd_c wd_1276)) rfl rfl rfl (by decide +kernel) ⟨Nat.le_of_ble_eq_true rfl, Nat.le_of_ble_eq_true rfl⟩) ⟨Pw.fb, va_recv hK hP (ci := 7) (q0 := 3) rfl rfl, fun U hU hW => Pw.to (hP.sub [3, 4, 0, 1, 2] rfl) (hD.sub [3, 4, 0, 1, 2] (by decide) rfl) (hK.sub [3, 0, 1, 2] rfl) hE hS hFc hU hW⟩ rfl rfl hl.1 rfl (lv_room (Nat.le_of_ble_eq_true rfl)) dX7_odds_29 ⟨Nat.le_of_ble_eq_true rfl, Nat.le_of_ble_eq_true rfl⟩) hS (fun q _ h => hFc q h) hFc (fun u t H locs ht hvm hw hB hz1 hk1 hS => ?_)
    obtain ⟨y_4513, y_4514, y_4515, f_4516, e_y_4513_0, e_y_4513_1, hB⟩ := hB
    obtain ⟨hP, hD, hK⟩ := Bw.go (ws' := [(oc7 oM x_4507 rM_tape iM_taped iM_size iM_at iM_end iM_token iM_whole iM_nameSize iM_fault iM_place x_4508 rM_letters iM_failed iM_hasCourt rM_r rM_fresh rM_told rM_read rM_st rM_undone rM_kept iM_undos iM_images rM_fresher iM_fresherSize iM_scale iM_night rM_heardRow rM_cutRow iM_breaths iM_cutMany iM_allBreaths rM_trial rM_words iM_fewestBreaths iM_orderMany iM_orderSum iM_leastOrder rM_often iM_setMany iM_someOf iM_allOf y_4513 y_4514 y_4515 iM_firstRest iM_leastDrawn), (arI rM_r kM_r 287 fM_r), (arI rM_told kM_told 90 fM_told), (arI rM_st kM_st 90 fM_st), (arI rM_trial kM_trial 90 f_4516)]) (tys' := [(kM_r, .int), (kM_told, .int), (kM_st, .int), (kM_trial, .int)]) hB rfl ht hvm hP hD hK [3, 4, 0, 1, 2] [] rfl (by decide) (by decide) [] hk1 hFc rfl rfl rfl
    clear hz1 hk1 hvm ht hB
    have nz_y_4513 := l_nz (e_y_4513_0).1
    have hG := hG.trans (un4_eq e_y_4513_1)
    refine lv_aload_n hx hb dX7_odds_32 rfl (lv_at hl 1 rfl) ?_
    refine va_get (D := (dC, dI)) (ci := 7) (v := .long y_4514) (C := RX7) (T := TX7) (N := 48) hx hb hts inX7 hown hK hP 0 rfl rfl 44 (by decide) (hts _ wd_1271) (fun _ h9 => h9) rfl dX7_odds_33 ?_
    refine lv_aload_n hx hb dX7_odds_36 rfl (lv_at hl 1 rfl) ?_
    refine va_get (D := (dC, dI)) (ci := 7) (v := .long y_4513) (C := RX7) (T := TX7) (N := 48) hx hb hts inX7 hown hK hP 0 rfl rfl 43 (by decide) (hts _ wd_1272) (fun _ h9 => h9) rfl dX7_odds_37 ?_
    refine lv_iload_n hx hb dX7_odds_40 rfl (lv_at hl 3 rfl) ?_
    have hFc : ∀ q, va_A [] _ q → A q := fun q h => hA q (Nat.le_trans hS.1 (va_nilA h))
    refine va_calll (va_runS (As := [.long y_4514, .long y_4513, .int p1]) (rest := []) ⟨hx, hb, hml, hown, hts⟩ (tX7_lowest l dC dI _ y_4514 y_4513 p1 nz_y_4513) (va_cwS 3 hts (wd_S wd_655 wd_656 wd_5 (wd_c wd_657)) rfl rfl rfl (by decide +kernel) ⟨Nat.le_of_ble_eq_true rfl, Nat.le_of_ble_eq_true rfl⟩) ⟨Pw.fb, fun U hU hW => Pn.to hK hE hS hA hU hW⟩ rfl rfl hl.1 rfl (lv_room (Nat.le_of_ble_eq_true rfl)) dX7_odds_41 ⟨Nat.le_of_ble_eq_true rfl, Nat.le_of_ble_eq_true rfl⟩) hS (fun q _ h => hFc q h) hFc (fun r u t H locs ht hvm hw hB hz1 hk1 hS => ?_)
    obtain ⟨hP, hD, hK⟩ := Bw.same ht hvm hP hD hK hk1 hFc
    clear hz1 hk1 hvm ht hB
    have hq9 := hw.2
    have hw := hw.1
    obtain ⟨y_4517, rfl⟩ : ∃ z, z = r := ⟨_, rfl⟩
    have hq_y_4517 := hq9
    have hG := hG.trans (lt_eq hq_y_4517.symm)
    exact W.lret hx hb hr (fun t ht hW => ⟨⟨_, (cL y_4517), rfl, ⟨⟨trivial, trivial⟩, (cL_of y_4517)⟩, ⟨x_4507, x_4508, y_4513, y_4514, y_4515, f_4516, (cL_tup hG), Bw.to (hP.sub [0, 1, 2, 3, 4] rfl) (hD.sub [0, 1, 2, 3, 4] (by decide) rfl) (hK.sub [0, 1, 2, 3] rfl) ht hW⟩⟩, hS.F ht⟩) hS.2.2 dX7_odds_44
  · skip
    have hG := hG.trans (lt_eq hru9.symm)
    have hG := hG.trans (if_neg (by decide))
    have hG := hG.trans (if_pos rfl)
    refine lv_istore_n (lv' := [(3, .int 1), (0, .ref oM), (1, .int p0), (2, .int p1)]) hx hb dX7_odds_15 rfl hl (by decide) rfl (fun ls hl => ?_)
    refine lv_iload_n hx hb dX7_odds_16 rfl (lv_at hl 0 rfl) ?_
    refine lv_if_eq (tgt := 27) hx hb dX7_odds_17 (by decide) (fun c => absurd c (by decide)) (fun _ => ?_)
    refine lv_aload_n hx hb dX7_odds_20 rfl (lv_at hl 1 rfl) ?_
    refine lv_iload_n hx hb dX7_odds_21 rfl (lv_at hl 0 rfl) ?_
    have hFc := va_free (wc := [(oc7 oM x_4507 rM_tape iM_taped iM_size iM_at iM_end iM_token iM_whole iM_nameSize iM_fault iM_place x_4508 rM_letters iM_failed iM_hasCourt rM_r rM_fresh rM_told rM_read rM_st rM_undone rM_kept iM_undos iM_images rM_fresher iM_fresherSize iM_scale iM_night rM_heardRow rM_cutRow iM_breaths iM_cutMany iM_allBreaths rM_trial rM_words iM_fewestBreaths iM_orderMany iM_orderSum iM_leastOrder rM_often iM_setMany iM_someOf iM_allOf iM_allWeight iM_enoughWeight iM_worthSum iM_firstRest iM_leastDrawn)]) hD hS hA [3] rfl
    refine va_calli (va_runV (As := [.int 1]) (rest := []) ⟨hx, hb, hml, hown, hts⟩ (tX7_no l dC dI _ oM x_4507 rM_tape iM_taped iM_size iM_at iM_end iM_token iM_whole iM_nameSize iM_fault iM_place x_4508 rM_letters iM_failed iM_hasCourt rM_r rM_fresh rM_told rM_read rM_st rM_undone rM_kept iM_undos iM_images rM_fresher iM_fresherSize iM_scale iM_night rM_heardRow rM_cutRow iM_breaths iM_cutMany iM_allBreaths rM_trial rM_words iM_fewestBreaths iM_orderMany iM_orderSum iM_leastOrder rM_often iM_setMany iM_someOf iM_allOf iM_allWeight iM_enoughWeight iM_worthSum iM_firstRest iM_leastDrawn 1 (by first | omega | decide) (by first | omega | decide) (by first | omega | decide) (by first | omega | decide) (by first | omega | decide) (by first | omega | decide) (by first | omega | decide) (by first | omega | decide) (by first | omega | decide) (by first | omega | decide)) (cwV 1 hts (wd_V wd_396 wd_397 wd_398 wd_5 (wd_c wd_399)) rfl rfl rfl (by decide +kernel) ⟨Nat.le_of_ble_eq_true rfl, Nat.le_of_ble_eq_true rfl⟩) ⟨Pw.fb, va_recv hK hP (ci := 7) (q0 := 3) rfl rfl, fun U hU hW => Pw.to (hP.sub [3] rfl) (hD.sub [3] (by decide) rfl) (hK.sub [] rfl) hE hS hFc hU hW⟩ rfl rfl hl.1 rfl (lv_room (Nat.le_of_ble_eq_true rfl)) dX7_odds_22 ⟨Nat.le_of_ble_eq_true rfl, Nat.le_of_ble_eq_true rfl⟩) hS (fun q _ h => hFc q h) hFc (fun r u t H locs ht hvm hw hB hz1 hk1 hS => ?_)
    have hru9 := hw.2
    have hw := hw.1
    obtain ⟨x_4519, e_x_4519_0, hB⟩ := hB
    obtain ⟨hP, hD, hK⟩ := Bw.go (ws' := [(arI rM_told kM_told 90 fM_told), (arI rM_st kM_st 90 fM_st), (arI rM_trial kM_trial 90 fM_trial), (arI rM_r kM_r 287 fM_r), (oc7 oM x_4507 rM_tape iM_taped iM_size iM_at iM_end iM_token iM_whole iM_nameSize iM_fault iM_place x_4519 rM_letters iM_failed iM_hasCourt rM_r rM_fresh rM_told rM_read rM_st rM_undone rM_kept iM_undos iM_images rM_fresher iM_fresherSize iM_scale iM_night rM_heardRow rM_cutRow iM_breaths iM_cutMany iM_allBreaths rM_trial rM_words iM_fewestBreaths iM_orderMany iM_orderSum iM_leastOrder rM_often iM_setMany iM_someOf iM_allOf iM_allWeight iM_enoughWeight iM_worthSum iM_firstRest iM_leastDrawn)]) (tys' := [(kM_told, .int), (kM_st, .int), (kM_trial, .int), (kM_r, .int)]) hB rfl ht hvm hP hD hK [3] [0, 1, 2, 4] rfl (by decide) (by decide) [0, 1, 2, 3] hk1 hFc rfl rfl rfl
    clear hz1 hk1 hvm ht hB
    rw [← hru9] at e_x_4519_0
    obtain ⟨x_4520, rfl⟩ : ∃ z, z = r := ⟨_, rfl⟩
    have hG := hG.trans (un2_eq e_x_4519_0)
    obtain ⟨y_4521, ey_4521⟩ : ∃ z : Int64, z = (x_4520 : Int32).toInt64 := ⟨_, rfl⟩
    have hG := hG.trans (lt_eq ey_4521)
    refine lv_i2l (v := y_4521) hx hb dX7_odds_25 ey_4521.symm ?_
    exact W.lret hx hb hr (fun t ht hW => ⟨⟨_, (cL y_4521), rfl, ⟨⟨trivial, trivial⟩, (cL_of y_4521)⟩, ⟨x_4507, x_4519, iM_allWeight, iM_enoughWeight, iM_worthSum, fM_trial, (cL_tup hG), Bw.to (hP.sub [4, 3, 0, 1, 2] rfl) (hD.sub [4, 3, 0, 1, 2] (by decide) rfl) (hK.sub [3, 0, 1, 2] rfl) ht hW⟩⟩, hS.F ht⟩) hS.2.2 dX7_odds_26
  · skip
    have hG := hG.trans (lt_eq hru9.symm)
    have hG := hG.trans (if_neg (by decide))
    have hG := hG.trans (if_neg (by decide))
    refine lv_istore_n (lv' := [(3, .int 2), (0, .ref oM), (1, .int p0), (2, .int p1)]) hx hb dX7_odds_15 rfl hl (by decide) rfl (fun ls hl => ?_)
    refine lv_iload_n hx hb dX7_odds_16 rfl (lv_at hl 0 rfl) ?_
    refine lv_if_eq (tgt := 27) hx hb dX7_odds_17 (by decide) (fun c => absurd c (by decide)) (fun _ => ?_)
    refine lv_aload_n hx hb dX7_odds_20 rfl (lv_at hl 1 rfl) ?_
    refine lv_iload_n hx hb dX7_odds_21 rfl (lv_at hl 0 rfl) ?_
    have hFc := va_free (wc := [(oc7 oM x_4507 rM_tape iM_taped iM_size iM_at iM_end iM_token iM_whole iM_nameSize iM_fault iM_place x_4508 rM_letters iM_failed iM_hasCourt rM_r rM_fresh rM_told rM_read rM_st rM_undone rM_kept iM_undos iM_images rM_fresher iM_fresherSize iM_scale iM_night rM_heardRow rM_cutRow iM_breaths iM_cutMany iM_allBreaths rM_trial rM_words iM_fewestBreaths iM_orderMany iM_orderSum iM_leastOrder rM_often iM_setMany iM_someOf iM_allOf iM_allWeight iM_enoughWeight iM_worthSum iM_firstRest iM_leastDrawn)]) hD hS hA [3] rfl
    refine va_calli (va_runV (As := [.int 2]) (rest := []) ⟨hx, hb, hml, hown, hts⟩ (tX7_no l dC dI _ oM x_4507 rM_tape iM_taped iM_size iM_at iM_end iM_token iM_whole iM_nameSize iM_fault iM_place x_4508 rM_letters iM_failed iM_hasCourt rM_r rM_fresh rM_told rM_read rM_st rM_undone rM_kept iM_undos iM_images rM_fresher iM_fresherSize iM_scale iM_night rM_heardRow rM_cutRow iM_breaths iM_cutMany iM_allBreaths rM_trial rM_words iM_fewestBreaths iM_orderMany iM_orderSum iM_leastOrder rM_often iM_setMany iM_someOf iM_allOf iM_allWeight iM_enoughWeight iM_worthSum iM_firstRest iM_leastDrawn 2 (by first | omega | decide) (by first | omega | decide) (by first | omega | decide) (by first | omega | decide) (by first | omega | decide) (by first | omega | decide) (by first | omega | decide) (by first | omega | decide) (by first | omega | decide) (by first | omega | decide)) (cwV 1 hts (wd_V wd_396 wd_397 wd_398 wd_5 (wd_c wd_399)) rfl rfl rfl (by decide +kernel) ⟨Nat.le_of_ble_eq_true rfl, Nat.le_of_ble_eq_true rfl⟩) ⟨Pw.fb, va_recv hK hP (ci := 7) (q0 := 3) rfl rfl, fun U hU hW => Pw.to (hP.sub [3] rfl) (hD.sub [3] (by decide) rfl) (hK.sub [] rfl) hE hS hFc hU hW⟩ rfl rfl hl.1 rfl (lv_room (Nat.le_of_ble_eq_true rfl)) dX7_odds_22 ⟨Nat.le_of_ble_eq_true rfl, Nat.le_of_ble_eq_true rfl⟩) hS (fun q _ h => hFc q h) hFc (fun r u t H locs ht hvm hw hB hz1 hk1 hS => ?_)
    have hru9 := hw.2
    have hw := hw.1
    obtain ⟨x_4523, e_x_4523_0, hB⟩ := hB
    obtain ⟨hP, hD, hK⟩ := Bw.go (ws' := [(arI rM_told kM_told 90 fM_told), (arI rM_st kM_st 90 fM_st), (arI rM_trial kM_trial 90 fM_trial), (arI rM_r kM_r 287 fM_r), (oc7 oM x_4507 rM_tape iM_taped iM_size iM_at iM_end iM_token iM_whole iM_nameSize iM_fault iM_place x_4523 rM_letters iM_failed iM_hasCourt rM_r rM_fresh rM_told rM_read rM_st rM_undone rM_kept iM_undos iM_images rM_fresher iM_fresherSize iM_scale iM_night rM_heardRow rM_cutRow iM_breaths iM_cutMany iM_allBreaths rM_trial rM_words iM_fewestBreaths iM_orderMany iM_orderSum iM_leastOrder rM_often iM_setMany iM_someOf iM_allOf iM_allWeight iM_enoughWeight iM_worthSum iM_firstRest iM_leastDrawn)]) (tys' := [(kM_told, .int), (kM_st, .int), (kM_trial, .int), (kM_r, .int)]) hB rfl ht hvm hP hD hK [3] [0, 1, 2, 4] rfl (by decide) (by decide) [0, 1, 2, 3] hk1 hFc rfl rfl rfl
    clear hz1 hk1 hvm ht hB
    rw [← hru9] at e_x_4523_0
    obtain ⟨x_4524, rfl⟩ : ∃ z, z = r := ⟨_, rfl⟩
    have hG := hG.trans (un2_eq e_x_4523_0)
    obtain ⟨y_4525, ey_4525⟩ : ∃ z : Int64, z = (x_4524 : Int32).toInt64 := ⟨_, rfl⟩
    have hG := hG.trans (lt_eq ey_4525)
    refine lv_i2l (v := y_4525) hx hb dX7_odds_25 ey_4525.symm ?_
    exact W.lret hx hb hr (fun t ht hW => ⟨⟨_, (cL y_4525), rfl, ⟨⟨trivial, trivial⟩, (cL_of y_4525)⟩, ⟨x_4507, x_4523, iM_allWeight, iM_enoughWeight, iM_worthSum, fM_trial, (cL_tup hG), Bw.to (hP.sub [4, 3, 0, 1, 2] rfl) (hD.sub [4, 3, 0, 1, 2] (by decide) rfl) (hK.sub [3, 0, 1, 2] rfl) ht hW⟩⟩, hS.F ht⟩) hS.2.2 dX7_odds_26
set_option maxHeartbeats 4000000 in
set_option maxRecDepth 100000 in
theorem tX7_mean (l : Launch) (dC : Nat → ClassId) (dI : Nat → Nat → Nat) (sz : Nat) (oM : Nat) (iM_thrown : Int32) (rM_tape : Nat) (iM_taped : Int32) (iM_size : Int32) (iM_at : Int32) (iM_end : Int32) (iM_token : Int32) (iM_whole : Int32) (iM_nameSize : Int32) (iM_fault : Int32) (iM_place : Int32) (iM_trouble : Int32) (rM_letters : Nat) (iM_failed : Int32) (iM_hasCourt : Int32) (rM_r : Nat) (fM_r : Nat → Int32) (kM_r : ClassId) (rM_fresh : Nat) (rM_told : Nat) (fM_told : Nat → Int32) (kM_told : ClassId) (rM_read : Nat) (rM_st : Nat) (fM_st : Nat → Int32) (kM_st : ClassId) (rM_undone : Nat) (rM_kept : Nat) (iM_undos : Int32) (iM_images : Int32) (rM_fresher : Nat) (iM_fresherSize : Int32) (iM_scale : Int32) (iM_night : Int32) (rM_heardRow : Nat) (rM_cutRow : Nat) (iM_breaths : Int32) (iM_cutMany : Int32) (iM_allBreaths : Int32) (rM_trial : Nat) (fM_trial : Nat → Int32) (kM_trial : ClassId) (rM_words : Nat) (iM_fewestBreaths : Int32) (iM_orderMany : Int32) (iM_orderSum : Int32) (iM_leastOrder : Int32) (rM_often : Nat) (iM_setMany : Int32) (iM_someOf : Int32) (iM_allOf : Int32) (iM_allWeight : Int64) (iM_enoughWeight : Int64) (iM_worthSum : Int64) (iM_firstRest : Int32) (iM_leastDrawn : Int32) (p0 : Int32) (b_iM_taped : 0 ≤ iM_taped.toInt ∧ iM_taped.toInt ≤ 900) (b_iM_size : 0 ≤ iM_size.toInt ∧ iM_size.toInt ≤ 900) (b_iM_end : 0 ≤ iM_end.toInt ∧ iM_end.toInt ≤ 900) (b_iM_failed : 0 ≤ iM_failed.toInt ∧ iM_failed.toInt ≤ 1) (b_iM_hasCourt : 0 ≤ iM_hasCourt.toInt ∧ iM_hasCourt.toInt ≤ 1) (b_iM_undos : 0 ≤ iM_undos.toInt ∧ iM_undos.toInt ≤ 16) (b_iM_images : 0 ≤ iM_images.toInt ∧ iM_images.toInt ≤ 3) (b_iM_scale : 1 ≤ iM_scale.toInt ∧ iM_scale.toInt ≤ 1296) (b_iM_breaths : 0 ≤ iM_breaths.toInt ∧ iM_breaths.toInt ≤ 399) (b_iM_cutMany : 0 ≤ iM_cutMany.toInt ∧ iM_cutMany.toInt ≤ 399) (r_R : ROk fM_r) (r_C : iM_hasCourt.toInt ≤ 0 ∨ (1 ≤ (fM_r 1).toInt ∧ 0 ≤ (fM_r 6).toInt ∧ (fM_r 6).toInt < (fM_r 1).toInt)) (r_st : RowOk fM_r fM_st) (r_told : RowOk fM_r fM_told) (r_wst : WorOk fM_st)  : Met l yX7_mean (Cond.code yX7_mean cX7_mean 2 (some .long) :: wG) ({ frames := 23, cells := 0, slots := 0, locals := 610 }) (va_Pc [.ref oM, .int p0] (Pw dC dI sz [(oc7 oM iM_thrown rM_tape iM_taped iM_size iM_at iM_end iM_token iM_whole iM_nameSize iM_fault iM_place iM_trouble rM_letters iM_failed iM_hasCourt rM_r rM_fresh rM_told rM_read rM_st rM_undone rM_kept iM_undos iM_images rM_fresher iM_fresherSize iM_scale iM_night rM_heardRow rM_cutRow iM_breaths iM_cutMany iM_allBreaths rM_trial rM_words iM_fewestBreaths iM_orderMany iM_orderSum iM_leastOrder rM_often iM_setMany iM_someOf iM_allOf iM_allWeight iM_enoughWeight iM_worthSum iM_firstRest iM_leastDrawn), (arI rM_r kM_r 287 fM_r), (arI rM_told kM_told 90 fM_told), (arI rM_st kM_st 90 fM_st), (arI rM_trial kM_trial 90 fM_trial)] [(kM_r, .int), (kM_told, .int), (kM_st, .int), (kM_trial, .int)])) (va_Ql (fun (r : Int64) (u : Nat) => (True ∧ True) ∧ r = Int64.ofNat u) (fun (u : Nat) (t : State) => ∃ (niM_thrown : Int32) (niM_trouble : Int32) (niM_allWeight : Int64) (niM_enoughWeight : Int64) (niM_worthSum : Int64) (nfM_trial : Nat → Int32), (PX7_mean iM_hasCourt fM_r fM_told fM_st iM_scale iM_night fM_trial iM_allWeight iM_enoughWeight iM_worthSum p0 = (Int64.ofNat u, niM_thrown, niM_trouble, niM_allWeight, niM_enoughWeight, niM_worthSum, nfM_trial)) ∧ Bw dC dI (va_A [(oc7 oM iM_thrown rM_tape iM_taped iM_size iM_at iM_end iM_token iM_whole iM_nameSize iM_fault iM_place iM_trouble rM_letters iM_failed iM_hasCourt rM_r rM_fresh rM_told rM_read rM_st rM_undone rM_kept iM_undos iM_images rM_fresher iM_fresherSize iM_scale iM_night rM_heardRow rM_cutRow iM_breaths iM_cutMany iM_allBreaths rM_trial rM_words iM_fewestBreaths iM_orderMany iM_orderSum iM_leastOrder rM_often iM_setMany iM_someOf iM_allOf iM_allWeight iM_enoughWeight iM_worthSum iM_firstRest iM_leastDrawn), (arI rM_r kM_r 287 fM_r), (arI rM_told kM_told 90 fM_told), (arI rM_st kM_st 90 fM_st), (arI rM_trial kM_trial 90 fM_trial)] sz) [(oc7 oM niM_thrown rM_tape iM_taped iM_size iM_at iM_end iM_token iM_whole iM_nameSize iM_fault iM_place niM_trouble rM_letters iM_failed iM_hasCourt rM_r rM_fresh rM_told rM_read rM_st rM_undone rM_kept iM_undos iM_images rM_fresher iM_fresherSize iM_scale iM_night rM_heardRow rM_cutRow iM_breaths iM_cutMany iM_allBreaths rM_trial rM_words iM_fewestBreaths iM_orderMany iM_orderSum iM_leastOrder rM_often iM_setMany iM_someOf iM_allOf niM_allWeight niM_enoughWeight niM_worthSum iM_firstRest iM_leastDrawn), (arI rM_r kM_r 287 fM_r), (arI rM_told kM_told 90 fM_told), (arI rM_st kM_st 90 fM_st), (arI rM_trial kM_trial 90 nfM_trial)] [(kM_r, .int), (kM_told, .int), (kM_st, .int), (kM_trial, .int)] t) (va_A [(oc7 oM iM_thrown rM_tape iM_taped iM_size iM_at iM_end iM_token iM_whole iM_nameSize iM_fault iM_place iM_trouble rM_letters iM_failed iM_hasCourt rM_r rM_fresh rM_told rM_read rM_st rM_undone rM_kept iM_undos iM_images rM_fresher iM_fresherSize iM_scale iM_night rM_heardRow rM_cutRow iM_breaths iM_cutMany iM_allBreaths rM_trial rM_words iM_fewestBreaths iM_orderMany iM_orderSum iM_leastOrder rM_often iM_setMany iM_someOf iM_allOf iM_allWeight iM_enoughWeight iM_worthSum iM_firstRest iM_leastDrawn), (arI rM_r kM_r 287 fM_r), (arI rM_told kM_told 90 fM_told), (arI rM_st kM_st 90 fM_st), (arI rM_trial kM_trial 90 fM_trial)] sz)) 0 0 (va_A [(oc7 oM iM_thrown rM_tape iM_taped iM_size iM_at iM_end iM_token iM_whole iM_nameSize iM_fault iM_place iM_trouble rM_letters iM_failed iM_hasCourt rM_r rM_fresh rM_told rM_read rM_st rM_undone rM_kept iM_undos iM_images rM_fresher iM_fresherSize iM_scale iM_night rM_heardRow rM_cutRow iM_breaths iM_cutMany iM_allBreaths rM_trial rM_words iM_fewestBreaths iM_orderMany iM_orderSum iM_leastOrder rM_often iM_setMany iM_someOf iM_allOf iM_allWeight iM_enoughWeight iM_worthSum iM_firstRest iM_leastDrawn), (arI rM_r kM_r 287 fM_r), (arI rM_told kM_told 90 fM_told), (arI rM_st kM_st 90 fM_st), (arI rM_trial kM_trial 90 fM_trial)] sz) := by
  refine Met.ofW (cc := cX7_mean) (maxL := 2) (ret := (some .long)) (by decide) rfl ?_
  intro p e s m args below meth c s₁ B hml hv
  obtain ⟨rfl, hsz, hP, hK, hD0, hE⟩ := hv
  have hx := B.exec
  have hb := B.bytes
  have hr := B.returns
  have hts : ∀ w ∈ wG, w.before ([.ref oM, .int p0] : List Value).toArray s = true := fun w h => atoms_spec (ws := Cond.code yX7_mean cX7_mean 2 (some .long) :: wG) B.pre w (List.mem_cons_of_mem _ h)
  have hown : s.vm.findClass RX7 = some m.cls := findClass_of_methodNamed B.named
  have hlocks := B.notSynchronized
  subst hsz
  have hD := hD0.self (sz := s.heap.size)
  generalize hAe : va_A [(oc7 oM iM_thrown rM_tape iM_taped iM_size iM_at iM_end iM_token iM_whole iM_nameSize iM_fault iM_place iM_trouble rM_letters iM_failed iM_hasCourt rM_r rM_fresh rM_told rM_read rM_st rM_undone rM_kept iM_undos iM_images rM_fresher iM_fresherSize iM_scale iM_night rM_heardRow rM_cutRow iM_breaths iM_cutMany iM_allBreaths rM_trial rM_words iM_fewestBreaths iM_orderMany iM_orderSum iM_leastOrder rM_often iM_setMany iM_someOf iM_allOf iM_allWeight iM_enoughWeight iM_worthSum iM_firstRest iM_leastDrawn), (arI rM_r kM_r 287 fM_r), (arI rM_told kM_told 90 fM_told), (arI rM_st kM_st 90 fM_st), (arI rM_trial kM_trial 90 fM_trial)] s.heap.size = A at hD hE ⊢
  have hA : ∀ q : Nat, s.heap.size ≤ q → A q := fun q h => by rw [← hAe]; exact Or.inr h
  have hS : va_S A s.heap s.heap [] := va_S.rf
  have hl := lv_entry ([.ref oM, .int p0]) (n := 2) (Nat.le_of_ble_eq_true rfl)
  rw [lg_entry_eq]
  generalize (lg_sl ([.ref oM, .int p0]) ++ List.replicate (2 - (lg_sl ([.ref oM, .int p0])).length) Slot.unset).toArray = ls at hl ⊢
  have hl : lv_has ls 2 [(0, .ref oM), (1, .int p0)] := hl
  have hG := PX7_mean_eq iM_hasCourt fM_r fM_told fM_st iM_scale iM_night fM_trial iM_allWeight iM_enoughWeight iM_worthSum p0
  have s_slips := r_R.slips
  have s_nodes := r_R.nodes
  have s_uns := r_R.uns
  refine lv_aload_n hx hb dX7_mean_0 rfl (lv_at hl 0 rfl) ?_
  have hFc := va_free (wc := [(oc7 oM iM_thrown rM_tape iM_taped iM_size iM_at iM_end iM_token iM_whole iM_nameSize iM_fault iM_place iM_trouble rM_letters iM_failed iM_hasCourt rM_r rM_fresh rM_told rM_read rM_st rM_undone rM_kept iM_undos iM_images rM_fresher iM_fresherSize iM_scale iM_night rM_heardRow rM_cutRow iM_breaths iM_cutMany iM_allBreaths rM_trial rM_words iM_fewestBreaths iM_orderMany iM_orderSum iM_leastOrder rM_often iM_setMany iM_someOf iM_allOf iM_allWeight iM_enoughWeight iM_worthSum iM_firstRest iM_leastDrawn)]) hD hS hA [0] rfl
  refine va_callv (va_runV (As := []) (rest := []) ⟨hx, hb, hml, hown, hts⟩ (tX7_good l dC dI _ oM iM_thrown rM_tape iM_taped iM_size iM_at iM_end iM_token iM_whole iM_nameSize iM_fault iM_place iM_trouble rM_letters iM_failed iM_hasCourt rM_r rM_fresh rM_told rM_read rM_st rM_undone rM_kept iM_undos iM_images rM_fresher iM_fresherSize iM_scale iM_night rM_heardRow rM_cutRow iM_breaths iM_cutMany iM_allBreaths rM_trial rM_words iM_fewestBreaths iM_orderMany iM_orderSum iM_leastOrder rM_often iM_setMany iM_someOf iM_allOf iM_allWeight iM_enoughWeight iM_worthSum iM_firstRest iM_leastDrawn (by first | omega | decide) (by first | omega | decide) (by first | omega | decide) (by first | omega | decide) (by first | omega | decide) (by first | omega | decide) (by first | omega | decide) (by first | omega | decide) (by first | omega | decide) (by first | omega | decide)) (cwV 0 hts (wd_V wd_388 wd_389 wd_390 wd_5 (wd_c wd_391)) rfl rfl rfl (by decide +kernel) ⟨Nat.le_of_ble_eq_true rfl, Nat.le_of_ble_eq_true rfl⟩) ⟨Pw.fb, va_recv hK hP (ci := 7) (q0 := 0) rfl rfl, fun U hU hW => Pw.to (hP.sub [0] rfl) (hD.sub [0] (by decide) rfl) (hK.sub [] rfl) hE hS hFc hU hW⟩ rfl rfl hl.1 rfl (lv_room (Nat.le_of_ble_eq_true rfl)) dX7_mean_1 ⟨Nat.le_of_ble_eq_true rfl, Nat.le_of_ble_eq_true rfl⟩) hS (fun q _ h => hFc q h) hFc (fun u t H locs ht hvm hw hB hz1 hk1 hS => ?_)
  obtain ⟨x_4543, x_4544, b_x_4543, b_x_4544, e_x_4543_0, hB⟩ := hB
  obtain ⟨hP, hD, hK⟩ := Bw.go (ws' := [(arI rM_r kM_r 287 fM_r), (arI rM_told kM_told 90 fM_told), (arI rM_st kM_st 90 fM_st), (arI rM_trial kM_trial 90 fM_trial), (oc7 oM x_4543 rM_tape iM_taped iM_size iM_at iM_end iM_token iM_whole iM_nameSize iM_fault iM_place x_4544 rM_letters iM_failed iM_hasCourt rM_r rM_fresh rM_told rM_read rM_st rM_undone rM_kept iM_undos iM_images rM_fresher iM_fresherSize iM_scale iM_night rM_heardRow rM_cutRow iM_breaths iM_cutMany iM_allBreaths rM_trial rM_words iM_fewestBreaths iM_orderMany iM_orderSum iM_leastOrder rM_often iM_setMany iM_someOf iM_allOf iM_allWeight iM_enoughWeight iM_worthSum iM_firstRest iM_leastDrawn)]) (tys' := [(kM_r, .int), (kM_told, .int), (kM_st, .int), (kM_trial, .int)]) hB rfl ht hvm hP hD hK [0] [1, 2, 3, 4] rfl (by decide) (by decide) [0, 1, 2, 3] hk1 hFc rfl rfl rfl
  clear hz1 hk1 hvm ht hB
  have hG := hG.trans (un2_eq e_x_4543_0)
  refine lv_aload_n hx hb dX7_mean_4 rfl (lv_at hl 0 rfl) ?_
  rcases (id r_C) with r_C0 | r_C1
  · skip
    refine va_get (D := (dC, dI)) (ci := 7) (v := .int iM_hasCourt) (C := RX7) (T := TX7) (N := 48) hx hb hts inX7 hown hK hP 4 rfl rfl 14 (by decide) (hts _ wd_385) (fun _ h9 => h9) rfl dX7_mean_5 ?_
    refine lv_if_ne (tgt := 18) hx hb dX7_mean_8 (by decide) (fun c_4545 => ?_) (fun c_4545 => ?_)
    · skip
      have hG := hG.trans (if_neg c_4545)
      have gc_4545 := ti_ne c_4545 rfl kc_0
      exfalso; clear hG; omega
    · skip
      have hG := hG.trans (if_pos c_4545)
      have gc_4545 := ti_eq c_4545 rfl kc_0
      refine lv_aload_n hx hb dX7_mean_11 rfl (lv_at hl 0 rfl) ?_
      refine lv_iconst (v := 1) hx hb dX7_mean_12 (by decide) ?_
      have hFc := va_free (wc := [(oc7 oM x_4543 rM_tape iM_taped iM_size iM_at iM_end iM_token iM_whole iM_nameSize iM_fault iM_place x_4544 rM_letters iM_failed iM_hasCourt rM_r rM_fresh rM_told rM_read rM_st rM_undone rM_kept iM_undos iM_images rM_fresher iM_fresherSize iM_scale iM_night rM_heardRow rM_cutRow iM_breaths iM_cutMany iM_allBreaths rM_trial rM_words iM_fewestBreaths iM_orderMany iM_orderSum iM_leastOrder rM_often iM_setMany iM_someOf iM_allOf iM_allWeight iM_enoughWeight iM_worthSum iM_firstRest iM_leastDrawn)]) hD hS hA [4] rfl
      refine va_calli (va_runV (As := [.int 1]) (rest := []) ⟨hx, hb, hml, hown, hts⟩ (tX7_no l dC dI _ oM x_4543 rM_tape iM_taped iM_size iM_at iM_end iM_token iM_whole iM_nameSize iM_fault iM_place x_4544 rM_letters iM_failed iM_hasCourt rM_r rM_fresh rM_told rM_read rM_st rM_undone rM_kept iM_undos iM_images rM_fresher iM_fresherSize iM_scale iM_night rM_heardRow rM_cutRow iM_breaths iM_cutMany iM_allBreaths rM_trial rM_words iM_fewestBreaths iM_orderMany iM_orderSum iM_leastOrder rM_often iM_setMany iM_someOf iM_allOf iM_allWeight iM_enoughWeight iM_worthSum iM_firstRest iM_leastDrawn 1 (by first | omega | decide) (by first | omega | decide) (by first | omega | decide) (by first | omega | decide) (by first | omega | decide) (by first | omega | decide) (by first | omega | decide) (by first | omega | decide) (by first | omega | decide) (by first | omega | decide)) (cwV 1 hts (wd_V wd_396 wd_397 wd_398 wd_5 (wd_c wd_399)) rfl rfl rfl (by decide +kernel) ⟨Nat.le_of_ble_eq_true rfl, Nat.le_of_ble_eq_true rfl⟩) ⟨Pw.fb, va_recv hK hP (ci := 7) (q0 := 4) rfl rfl, fun U hU hW => Pw.to (hP.sub [4] rfl) (hD.sub [4] (by decide) rfl) (hK.sub [] rfl) hE hS hFc hU hW⟩ rfl rfl hl.1 rfl (lv_room (Nat.le_of_ble_eq_true rfl)) dX7_mean_13 ⟨Nat.le_of_ble_eq_true rfl, Nat.le_of_ble_eq_true rfl⟩) hS (fun q _ h => hFc q h) hFc (fun r u t H locs ht hvm hw hB hz1 hk1 hS => ?_)
      have hru9 := hw.2
      have hw := hw.1
      obtain ⟨x_4546, e_x_4546_0, hB⟩ := hB
      obtain ⟨hP, hD, hK⟩ := Bw.go (ws' := [(arI rM_r kM_r 287 fM_r), (arI rM_told kM_told 90 fM_told), (arI rM_st kM_st 90 fM_st), (arI rM_trial kM_trial 90 fM_trial), (oc7 oM x_4543 rM_tape iM_taped iM_size iM_at iM_end iM_token iM_whole iM_nameSize iM_fault iM_place x_4546 rM_letters iM_failed iM_hasCourt rM_r rM_fresh rM_told rM_read rM_st rM_undone rM_kept iM_undos iM_images rM_fresher iM_fresherSize iM_scale iM_night rM_heardRow rM_cutRow iM_breaths iM_cutMany iM_allBreaths rM_trial rM_words iM_fewestBreaths iM_orderMany iM_orderSum iM_leastOrder rM_often iM_setMany iM_someOf iM_allOf iM_allWeight iM_enoughWeight iM_worthSum iM_firstRest iM_leastDrawn)]) (tys' := [(kM_r, .int), (kM_told, .int), (kM_st, .int), (kM_trial, .int)]) hB rfl ht hvm hP hD hK [4] [0, 1, 2, 3] rfl (by decide) (by decide) [0, 1, 2, 3] hk1 hFc rfl rfl rfl
      clear hz1 hk1 hvm ht hB
      rw [← hru9] at e_x_4546_0
      obtain ⟨x_4547, rfl⟩ : ∃ z, z = r := ⟨_, rfl⟩
      have hG := hG.trans (un2_eq e_x_4546_0)
      obtain ⟨y_4548, ey_4548⟩ : ∃ z : Int64, z = (x_4547 : Int32).toInt64 := ⟨_, rfl⟩
      have hG := hG.trans (lt_eq ey_4548)
      refine lv_i2l (v := y_4548) hx hb dX7_mean_16 ey_4548.symm ?_
      exact W.lret hx hb hr (fun t ht hW => ⟨⟨_, (cL y_4548), rfl, ⟨⟨trivial, trivial⟩, (cL_of y_4548)⟩, ⟨x_4543, x_4546, iM_allWeight, iM_enoughWeight, iM_worthSum, fM_trial, (cL_tup hG), Bw.to (hP.sub [4, 0, 1, 2, 3] rfl) (hD.sub [4, 0, 1, 2, 3] (by decide) rfl) (hK.sub [0, 1, 2, 3] rfl) ht hW⟩⟩, hS.F ht⟩) hS.2.2 dX7_mean_17
  · skip
    refine va_get (D := (dC, dI)) (ci := 7) (v := .int iM_hasCourt) (C := RX7) (T := TX7) (N := 48) hx hb hts inX7 hown hK hP 4 rfl rfl 14 (by decide) (hts _ wd_385) (fun _ h9 => h9) rfl dX7_mean_5 ?_
    refine lv_if_ne (tgt := 18) hx hb dX7_mean_8 (by decide) (fun c_4549 => ?_) (fun c_4549 => ?_)
    · skip
      have hG := hG.trans (if_neg c_4549)
      have gc_4549 := ti_ne c_4549 rfl kc_0
      refine lv_aload_n hx hb dX7_mean_18 rfl (lv_at hl 0 rfl) ?_
      refine lv_iconst (v := 0) hx hb dX7_mean_19 (by decide) ?_
      have hFc := va_free (wc := [(oc7 oM x_4543 rM_tape iM_taped iM_size iM_at iM_end iM_token iM_whole iM_nameSize iM_fault iM_place x_4544 rM_letters iM_failed iM_hasCourt rM_r rM_fresh rM_told rM_read rM_st rM_undone rM_kept iM_undos iM_images rM_fresher iM_fresherSize iM_scale iM_night rM_heardRow rM_cutRow iM_breaths iM_cutMany iM_allBreaths rM_trial rM_words iM_fewestBreaths iM_orderMany iM_orderSum iM_leastOrder rM_often iM_setMany iM_someOf iM_allOf iM_allWeight iM_enoughWeight iM_worthSum iM_firstRest iM_leastDrawn), (arI rM_r kM_r 287 fM_r), (arI rM_told kM_told 90 fM_told), (arI rM_st kM_st 90 fM_st), (arI rM_trial kM_trial 90 fM_trial)]) hD hS hA [4, 0, 1, 2, 3] rfl
      refine va_callv (va_runV (As := [.int 0]) (rest := []) ⟨hx, hb, hml, hown, hts⟩ (tX7_trySlips l dC dI _ oM x_4543 rM_tape iM_taped iM_size iM_at iM_end iM_token iM_whole iM_nameSize iM_fault iM_place x_4544 rM_letters iM_failed iM_hasCourt rM_r fM_r kM_r rM_fresh rM_told fM_told kM_told rM_read rM_st fM_st kM_st rM_undone rM_kept iM_undos iM_images rM_fresher iM_fresherSize iM_scale iM_night rM_heardRow rM_cutRow iM_breaths iM_cutMany iM_allBreaths rM_trial fM_trial kM_trial rM_words iM_fewestBreaths iM_orderMany iM_orderSum iM_leastOrder rM_often iM_setMany iM_someOf iM_allOf iM_allWeight iM_enoughWeight iM_worthSum iM_firstRest iM_leastDrawn 0 (by first | omega | decide) (by first | omega | decide) (by first | omega | decide) (by first | omega | decide) (by first | omega | decide) (by first | omega | decide) (by first | omega | decide) (by first | omega | decide) (by first | omega | decide) (by first | omega | decide) (by assumption) (by assumption) (by assumption) (by assumption) (by assumption) (by first | omega | decide | assumption | (have q0 := kc_0; have q1 := kc_1; omega) | (intro h; exact absurd h (by decide)))) (cwV 1 hts (wd_V wd_1273 wd_1274 wd_1275 wd_5 (wd_c wd_1276)) rfl rfl rfl (by decide +kernel) ⟨Nat.le_of_ble_eq_true rfl, Nat.le_of_ble_eq_true rfl⟩) ⟨Pw.fb, va_recv hK hP (ci := 7) (q0 := 4) rfl rfl, fun U hU hW => Pw.to (hP.sub [4, 0, 1, 2, 3] rfl) (hD.sub [4, 0, 1, 2, 3] (by decide) rfl) (hK.sub [0, 1, 2, 3] rfl) hE hS hFc hU hW⟩ rfl rfl hl.1 rfl (lv_room (Nat.le_of_ble_eq_true rfl)) dX7_mean_20 ⟨Nat.le_of_ble_eq_true rfl, Nat.le_of_ble_eq_true rfl⟩) hS (fun q _ h => hFc q h) hFc (fun u t H locs ht hvm hw hB hz1 hk1 hS => ?_)
      obtain ⟨y_4550, y_4551, y_4552, f_4553, e_y_4550_0, e_y_4550_1, hB⟩ := hB
      obtain ⟨hP, hD, hK⟩ := Bw.go (ws' := [(oc7 oM x_4543 rM_tape iM_taped iM_size iM_at iM_end iM_token iM_whole iM_nameSize iM_fault iM_place x_4544 rM_letters iM_failed iM_hasCourt rM_r rM_fresh rM_told rM_read rM_st rM_undone rM_kept iM_undos iM_images rM_fresher iM_fresherSize iM_scale iM_night rM_heardRow rM_cutRow iM_breaths iM_cutMany iM_allBreaths rM_trial rM_words iM_fewestBreaths iM_orderMany iM_orderSum iM_leastOrder rM_often iM_setMany iM_someOf iM_allOf y_4550 y_4551 y_4552 iM_firstRest iM_leastDrawn), (arI rM_r kM_r 287 fM_r), (arI rM_told kM_told 90 fM_told), (arI rM_st kM_st 90 fM_st), (arI rM_trial kM_trial 90 f_4553)]) (tys' := [(kM_r, .int), (kM_told, .int), (kM_st, .int), (kM_trial, .int)]) hB rfl ht hvm hP hD hK [4, 0, 1, 2, 3] [] rfl (by decide) (by decide) [] hk1 hFc rfl rfl rfl
      clear hz1 hk1 hvm ht hB
      have nz_y_4550 := l_nz (e_y_4550_0).1
      have hG := hG.trans (un4_eq e_y_4550_1)
      refine lv_aload_n hx hb dX7_mean_23 rfl (lv_at hl 0 rfl) ?_
      refine va_get (D := (dC, dI)) (ci := 7) (v := .long y_4552) (C := RX7) (T := TX7) (N := 48) hx hb hts inX7 hown hK hP 0 rfl rfl 45 (by decide) (hts _ wd_1277) (fun _ h9 => h9) rfl dX7_mean_24 ?_
      refine lv_aload_n hx hb dX7_mean_27 rfl (lv_at hl 0 rfl) ?_
      refine va_get (D := (dC, dI)) (ci := 7) (v := .long y_4550) (C := RX7) (T := TX7) (N := 48) hx hb hts inX7 hown hK hP 0 rfl rfl 43 (by decide) (hts _ wd_1272) (fun _ h9 => h9) rfl dX7_mean_28 ?_
      refine lv_aload_n hx hb dX7_mean_31 rfl (lv_at hl 0 rfl) ?_
      refine va_get (D := (dC, dI)) (ci := 7) (v := .int iM_scale) (C := RX7) (T := TX7) (N := 48) hx hb hts inX7 hown hK hP 0 rfl rfl 26 (by decide) (hts _ wd_163) (fun _ h9 => h9) rfl dX7_mean_32 ?_
      obtain ⟨y_4554, ey_4554⟩ : ∃ z : Int64, z = (iM_scale : Int32).toInt64 := ⟨_, rfl⟩
      have hG := hG.trans (lt_eq ey_4554)
      refine lv_i2l (v := y_4554) hx hb dX7_mean_35 ey_4554.symm ?_
      have nz_y_4554 := i2l_nz ey_4554 (by omega)
      refine lv_lmul hx hb dX7_mean_36 ?_
      refine lv_topl (fun y_4555 ey_4555 => ?_)
      have hG := hG.trans (lt_eq ey_4555)
      have nz_y_4555 := mulL_nz ey_4555 (e_y_4550_0).1 (e_y_4550_0).2 (by have q := i2l_v ey_4554; omega) (by have q := i2l_v ey_4554; omega)
      refine lv_iload_n hx hb dX7_mean_37 rfl (lv_at hl 1 rfl) ?_
      have hFc : ∀ q, va_A [] _ q → A q := fun q h => hA q (Nat.le_trans hS.1 (va_nilA h))
      refine va_calll (va_runS (As := [.long y_4552, .long y_4555, .int p0]) (rest := []) ⟨hx, hb, hml, hown, hts⟩ (tX7_lowest l dC dI _ y_4552 y_4555 p0 nz_y_4555) (va_cwS 3 hts (wd_S wd_655 wd_656 wd_5 (wd_c wd_657)) rfl rfl rfl (by decide +kernel) ⟨Nat.le_of_ble_eq_true rfl, Nat.le_of_ble_eq_true rfl⟩) ⟨Pw.fb, fun U hU hW => Pn.to hK hE hS hA hU hW⟩ rfl rfl hl.1 rfl (lv_room (Nat.le_of_ble_eq_true rfl)) dX7_mean_38 ⟨Nat.le_of_ble_eq_true rfl, Nat.le_of_ble_eq_true rfl⟩) hS (fun q _ h => hFc q h) hFc (fun r u t H locs ht hvm hw hB hz1 hk1 hS => ?_)
      obtain ⟨hP, hD, hK⟩ := Bw.same ht hvm hP hD hK hk1 hFc
      clear hz1 hk1 hvm ht hB
      have hq9 := hw.2
      have hw := hw.1
      obtain ⟨y_4556, rfl⟩ : ∃ z, z = r := ⟨_, rfl⟩
      have hq_y_4556 := hq9
      have hG := hG.trans (lt_eq hq_y_4556.symm)
      exact W.lret hx hb hr (fun t ht hW => ⟨⟨_, (cL y_4556), rfl, ⟨⟨trivial, trivial⟩, (cL_of y_4556)⟩, ⟨x_4543, x_4544, y_4550, y_4551, y_4552, f_4553, (cL_tup hG), Bw.to (hP.sub [0, 1, 2, 3, 4] rfl) (hD.sub [0, 1, 2, 3, 4] (by decide) rfl) (hK.sub [0, 1, 2, 3] rfl) ht hW⟩⟩, hS.F ht⟩) hS.2.2 dX7_mean_41
    · skip
      have hG := hG.trans (if_pos c_4549)
      have gc_4549 := ti_eq c_4549 rfl kc_0
      refine lv_aload_n hx hb dX7_mean_11 rfl (lv_at hl 0 rfl) ?_
      refine lv_iconst (v := 1) hx hb dX7_mean_12 (by decide) ?_
      have hFc := va_free (wc := [(oc7 oM x_4543 rM_tape iM_taped iM_size iM_at iM_end iM_token iM_whole iM_nameSize iM_fault iM_place x_4544 rM_letters iM_failed iM_hasCourt rM_r rM_fresh rM_told rM_read rM_st rM_undone rM_kept iM_undos iM_images rM_fresher iM_fresherSize iM_scale iM_night rM_heardRow rM_cutRow iM_breaths iM_cutMany iM_allBreaths rM_trial rM_words iM_fewestBreaths iM_orderMany iM_orderSum iM_leastOrder rM_often iM_setMany iM_someOf iM_allOf iM_allWeight iM_enoughWeight iM_worthSum iM_firstRest iM_leastDrawn)]) hD hS hA [4] rfl
      refine va_calli (va_runV (As := [.int 1]) (rest := []) ⟨hx, hb, hml, hown, hts⟩ (tX7_no l dC dI _ oM x_4543 rM_tape iM_taped iM_size iM_at iM_end iM_token iM_whole iM_nameSize iM_fault iM_place x_4544 rM_letters iM_failed iM_hasCourt rM_r rM_fresh rM_told rM_read rM_st rM_undone rM_kept iM_undos iM_images rM_fresher iM_fresherSize iM_scale iM_night rM_heardRow rM_cutRow iM_breaths iM_cutMany iM_allBreaths rM_trial rM_words iM_fewestBreaths iM_orderMany iM_orderSum iM_leastOrder rM_often iM_setMany iM_someOf iM_allOf iM_allWeight iM_enoughWeight iM_worthSum iM_firstRest iM_leastDrawn 1 (by first | omega | decide) (by first | omega | decide) (by first | omega | decide) (by first | omega | decide) (by first | omega | decide) (by first | omega | decide) (by first | omega | decide) (by first | omega | decide) (by first | omega | decide) (by first | omega | decide)) (cwV 1 hts (wd_V wd_396 wd_397 wd_398 wd_5 (wd_c wd_399)) rfl rfl rfl (by decide +kernel) ⟨Nat.le_of_ble_eq_true rfl, Nat.le_of_ble_eq_true rfl⟩) ⟨Pw.fb, va_recv hK hP (ci := 7) (q0 := 4) rfl rfl, fun U hU hW => Pw.to (hP.sub [4] rfl) (hD.sub [4] (by decide) rfl) (hK.sub [] rfl) hE hS hFc hU hW⟩ rfl rfl hl.1 rfl (lv_room (Nat.le_of_ble_eq_true rfl)) dX7_mean_13 ⟨Nat.le_of_ble_eq_true rfl, Nat.le_of_ble_eq_true rfl⟩) hS (fun q _ h => hFc q h) hFc (fun r u t H locs ht hvm hw hB hz1 hk1 hS => ?_)
      have hru9 := hw.2
      have hw := hw.1
      obtain ⟨x_4557, e_x_4557_0, hB⟩ := hB
      obtain ⟨hP, hD, hK⟩ := Bw.go (ws' := [(arI rM_r kM_r 287 fM_r), (arI rM_told kM_told 90 fM_told), (arI rM_st kM_st 90 fM_st), (arI rM_trial kM_trial 90 fM_trial), (oc7 oM x_4543 rM_tape iM_taped iM_size iM_at iM_end iM_token iM_whole iM_nameSize iM_fault iM_place x_4557 rM_letters iM_failed iM_hasCourt rM_r rM_fresh rM_told rM_read rM_st rM_undone rM_kept iM_undos iM_images rM_fresher iM_fresherSize iM_scale iM_night rM_heardRow rM_cutRow iM_breaths iM_cutMany iM_allBreaths rM_trial rM_words iM_fewestBreaths iM_orderMany iM_orderSum iM_leastOrder rM_often iM_setMany iM_someOf iM_allOf iM_allWeight iM_enoughWeight iM_worthSum iM_firstRest iM_leastDrawn)]) (tys' := [(kM_r, .int), (kM_told, .int), (kM_st, .int), (kM_trial, .int)]) hB rfl ht hvm hP hD hK [4] [0, 1, 2, 3] rfl (by decide) (by decide) [0, 1, 2, 3] hk1 hFc rfl rfl rfl
      clear hz1 hk1 hvm ht hB
      rw [← hru9] at e_x_4557_0
      obtain ⟨x_4558, rfl⟩ : ∃ z, z = r := ⟨_, rfl⟩
      have hG := hG.trans (un2_eq e_x_4557_0)
      obtain ⟨y_4559, ey_4559⟩ : ∃ z : Int64, z = (x_4558 : Int32).toInt64 := ⟨_, rfl⟩
      have hG := hG.trans (lt_eq ey_4559)
      refine lv_i2l (v := y_4559) hx hb dX7_mean_16 ey_4559.symm ?_
      exact W.lret hx hb hr (fun t ht hW => ⟨⟨_, (cL y_4559), rfl, ⟨⟨trivial, trivial⟩, (cL_of y_4559)⟩, ⟨x_4543, x_4557, iM_allWeight, iM_enoughWeight, iM_worthSum, fM_trial, (cL_tup hG), Bw.to (hP.sub [4, 0, 1, 2, 3] rfl) (hD.sub [4, 0, 1, 2, 3] (by decide) rfl) (hK.sub [0, 1, 2, 3] rfl) ht hW⟩⟩, hS.F ht⟩) hS.2.2 dX7_mean_17
